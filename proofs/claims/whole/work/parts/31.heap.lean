-- FRAMES, STRANDS, THE HEAP, THE WORLD: what they do, as functions of the memory
theorem xne {α : Type} {T : Nat → Option α} {a b : Nat} {x y : α} (h1 : T a = some x) (h2 : T b = some y) (h : x ≠ y) : a ≠ b := by
  rintro rfl
  rw [h1] at h2
  exact h (Option.some.inj h2)
theorem xsI_ne {A : xQ} {a k v b j : Nat} (h : b ≠ a ∨ j ≠ k) : (xsI A a k v).1 b j = A.1 b j := by
  show x2 A.1 a k v b j = _
  unfold x2
  split
  · split
    · omega
    · rfl
  · rfl
theorem xsI_eq {A : xQ} {a k v : Nat} : (xsI A a k v).1 a k = v := by
  show x2 A.1 a k v a k = _
  simp [x2]
theorem xsJ_ne {A : xQ} {a k : Nat} {v : Int64} {b j : Nat} (h : b ≠ a ∨ j ≠ k) : (xsJ A a k v).2 b j = A.2 b j := by
  show x2 A.2 a k v b j = _
  unfold x2
  split
  · split
    · omega
    · rfl
  · rfl
theorem xsJ_eq {A : xQ} {a k : Nat} {v : Int64} : (xsJ A a k v).2 a k = v := by
  show x2 A.2 a k v a k = _
  simp [x2]
theorem xit_keep {f : Nat → xQ → xQ} {b j : Nat} (hf : ∀ i A, (f i A).1 b j = A.1 b j) : ∀ (n i : Nat) (A : xQ), (xit f n i A).1 b j = A.1 b j := by
  intro n
  induction n with
  | zero => intro i A; rfl
  | succ n ih => intro i A; show (xit f n (i + 1) (f i A)).1 b j = _; rw [ih, hf]
theorem xit_keep2 {f : Nat → xQ → xQ} {b j : Nat} (hf : ∀ i A, (f i A).2 b j = A.2 b j) : ∀ (n i : Nat) (A : xQ), (xit f n i A).2 b j = A.2 b j := by
  intro n
  induction n with
  | zero => intro i A; rfl
  | succ n ih => intro i A; show (xit f n (i + 1) (f i A)).2 b j = _; rw [ih, hf]
theorem nI_div {m n : Nat} (hm : m < 2 ^ 31) (hn : n < 2 ^ 31) (h0 : 0 < n) : nI m / nI n = nI (m / n) := by
  apply Int32.toInt_inj.mp
  have hq : m / n < 2 ^ 31 := Nat.lt_of_le_of_lt (Nat.div_le_self _ _) hm
  rw [Int32.toInt_div, nI_toInt hm, nI_toInt hn, nI_toInt hq, ← Int.ofNat_tdiv]
  simp only [Int.bmod]
  have : ((m / n : Nat) : Int) < 2 ^ 31 := by exact_mod_cast hq
  have h2 : (0 : Int) ≤ ((m / n : Nat) : Int) := Int.natCast_nonneg _
  generalize ((m / n : Nat) : Int) = q at *
  omega
theorem nI_rem {m n : Nat} (hm : m < 2 ^ 31) (hn : n < 2 ^ 31) (h0 : 0 < n) : nI m - nI m / nI n * nI n = nI (m % n) := by
  rw [nI_div hm hn h0, nI_mul, nI_sub (Nat.div_mul_le_self m n)]
  congr 1
  have := Nat.div_add_mod' m n
  omega
def oN (v : Int64) : Nat := v.toInt32.toUInt32.toNat
theorem oN_lN {n : Nat} (h : n < 2 ^ 32) : oN (lN n) = n := by
  unfold oN
  rw [lN_i, nI_u]
  omega
theorem oN_i (v : Int64) : v.toInt32 = nI (oN v) := nI_all _
theorem oN_lt (v : Int64) : oN v < 2 ^ 32 := nI_lt32 _
/-- push, as the class does it: the error, the memory -/
def aPush (A : xQ) (f k : Nat) (v : Int64) : Nat × xQ := if A.1 f 3 < 6 then (0, xpu A f k v) else (6, A)
theorem c55a {z : Nat} {T : Nat → Option xT} {R : Nat → Nat → Option Nat} {A : xQ} {f k : Nat} {v : Int64} (hF : xF0 T R f) (hs : A.1 f 3 ≤ 6) : xF 55 [.ref f, .int (nI k), .long v] (xm z T R A) (.inr (some (.int (nI (aPush A f k v).1))), xm z T R (aPush A f k v).2) := by
  unfold aPush
  split
  · exact c55 hF (by omega)
  · exact c55f hF (by omega)
theorem c56 {z : Nat} {T : Nat → Option xT} {R : Nat → Nat → Option Nat} {A : xQ} {f a ka na n i : Nat} (hF : xF0 T R f) (hC : xC0 T R a ka na n) (hi : i < n) (hn : n < 2 ^ 31) (hs : A.1 f 3 ≤ 6) : xF 56 [.ref f, .ref a, .int (nI i)] (xm z T R A) (.inr (some (.int (nI (aPush A f (A.1 ka i) (A.2 na i)).1))), xm z T R (aPush A f (A.1 ka i) (A.2 na i)).2) := by
  obtain ⟨c1, c2, c3, c4, c5⟩ := hC
  refine xF_eq (xF_p (Nat.le_of_ble_eq_true rfl) ?_)
  refine xp_aload_n rfl rfl ?_
  refine xp_aload_n rfl rfl ?_
  refine xp_gfa rfl rfl (by decide) (by decide) (by assumption) (by assumption) ?_
  refine xp_iload_n rfl rfl ?_
  refine xp_iald rfl (by assumption) (by omega) (by omega) ?_
  refine xp_aload_n rfl rfl ?_
  refine xp_gfa rfl rfl (by decide) (by decide) (by assumption) (by assumption) ?_
  refine xp_iload_n rfl rfl ?_
  refine xp_lald rfl (by assumption) (by omega) (by omega) ?_
  refine xp_iv rfl rfl (Nat.le_of_ble_eq_true rfl) (by decide) (by decide) (by decide) (Nat.le_of_ble_eq_true rfl) rfl (xrcv1 (by decide) (by exact hF.1)) (c55a hF hs) rfl ?_
  refine xp_ireturn rfl (by decide) (by decide) (by decide) ?_
  rfl
/-- a value copied from cell j of (kb, nb) to cell i of (ka, na) -/
def aCopy (ka na i kb nb j : Nat) (A : xQ) : xQ := xsJ (xsI A ka i (A.1 kb j)) na i (A.2 nb j)
def aTake (A : xQ) (g f n a : Nat) : xQ := xsI (xit (fun i B => aCopy (g + 2) (g + 3) (1 + i) (f + 2) (f + 3) (5 + A.1 f 3 - a - n + i) B) n 0 A) f 3 (A.1 f 3 - (n + a))
theorem l57 {z : Nat} {T : Nat → Option xT} {R : Nat → Nat → Option Nat} {g f n a fs : Nat} (hF : xF0 T R f) (hG : xF0 T R g) (hn : n ≤ 2) (hfs : n + a ≤ fs) (hf6 : fs ≤ 6) : ∀ (m i : Nat) (A : xQ), i + m = n → A.1 f 3 = fs → xP 57 15 [(0, .ref g), (1, .ref f), (2, .int (nI n)), (3, .int (nI a)), (4, .int (nI (5 + fs - a - n))), (5, .int (nI i))] [] 0 0 (xm z T R A) (fun r => r = (.inr none, xm z T R (xsI (xit (fun i B => aCopy (g + 2) (g + 3) (1 + i) (f + 2) (f + 3) (5 + fs - a - n + i) B) m i A) f 3 (fs - (n + a))))) := by
  obtain ⟨f1, f2, hC⟩ := hF
  obtain ⟨g1, g2, hG⟩ := hG
  have hne : f ≠ g + 2 := xne f1 hG.2.2.2.1 (by simp)
  intro m
  induction m with
  | zero =>
    intro i A hi0 hs0
    refine xp_iload rfl rfl ?_
    refine xp_iload_n rfl rfl ?_
    refine xp_icge 47 rfl (by decide) (by omega) (by omega) (fun h18 => ?_) (fun h18 => ?_)
    · skip
      refine xp_aload_n rfl rfl ?_
      refine xp_dup rfl rfl ?_
      refine xp_gfi rfl rfl (by decide) (by decide) (by assumption) ?_
      refine xp_iload_n rfl rfl ?_
      refine xp_iload_n rfl rfl ?_
      refine xp_iadd rfl ?_
      refine xp_isub rfl (by rw [hs0]; omega) ?_
      refine xp_pfi rfl rfl (by decide) (by decide) (by decide) (by assumption) ?_
      refine xp_return rfl (by decide) (by decide) (by decide) ?_
      rw [hs0]
      rfl
    · exfalso; omega
  | succ m ih =>
    intro i A hi0 hs0
    refine xp_iload rfl rfl ?_
    refine xp_iload_n rfl rfl ?_
    refine xp_icge 47 rfl (by decide) (by omega) (by omega) (fun h18 => ?_) (fun h18 => ?_)
    · exfalso; omega
    · skip
      refine xp_aload_n rfl rfl ?_
      refine xp_gfa rfl rfl (by decide) (by decide) (by assumption) (by assumption) ?_
      refine xp_iconst (n := 1) rfl (by decide) ?_
      refine xp_iload rfl rfl ?_
      refine xp_iadd rfl ?_
      refine xp_aload_n rfl rfl ?_
      refine xp_gfa rfl rfl (by decide) (by decide) (by assumption) (by assumption) ?_
      refine xp_iload rfl rfl ?_
      refine xp_iload rfl rfl ?_
      refine xp_iadd rfl ?_
      refine xp_iv rfl rfl (Nat.le_of_ble_eq_true rfl) (by decide) (by decide) (by decide) (Nat.le_of_ble_eq_true rfl) rfl (xrcv1 (by decide) (by exact hG.1)) (c24 hG hC (by omega) (by omega) (by omega) (by omega)) rfl ?_
      refine xp_iinc rfl rfl (by decide) (nI_inc _) ?_
      refine xp_goto 15 rfl (by decide) ?_
      refine xp_weak [(0, .ref g), (1, .ref f), (2, .int (nI n)), (3, .int (nI a)), (4, .int (nI (5 + fs - a - n))), (5, .int (nI (i + 1)))] (xle_cons rfl (xle_cons rfl (xle_cons rfl (xle_cons rfl (xle_cons rfl (xle_cons rfl (xle_nil _))))))) (by simp [xnd]) ?_
      refine ih (i + 1) _ (by omega) ?_
      show (xsI _ _ _ _).1 f 3 = fs
      rw [xsI_ne (Or.inl hne)]
      exact hs0
theorem c57 {z : Nat} {T : Nat → Option xT} {R : Nat → Nat → Option Nat} {A : xQ} {g f n a : Nat} (hF : xF0 T R f) (hG : xF0 T R g) (hn : n ≤ 2) (hfs : n + a ≤ A.1 f 3) (hf6 : A.1 f 3 ≤ 6) : xF 57 [.ref g, .ref f, .int (nI n), .int (nI a)] (xm z T R A) (.inr none, xm z T R (aTake A g f n a)) := by
  refine xF_eq (xF_p (Nat.le_of_ble_eq_true rfl) ?_)
  have hF0 := hF
  obtain ⟨f1, f2, hC⟩ := hF
  refine xp_iconst (n := 5) rfl (by decide) ?_
  refine xp_aload_n rfl rfl ?_
  refine xp_gfi rfl rfl (by decide) (by decide) (by assumption) ?_
  refine xp_iadd rfl ?_
  refine xp_iload_n rfl rfl ?_
  refine xp_isub rfl (by omega) ?_
  refine xp_iload_n rfl rfl ?_
  refine xp_isub rfl (by omega) ?_
  refine xp_istore rfl (by decide) ?_
  refine xp_iconst (n := 0) rfl (by decide) ?_
  refine xp_istore rfl (by decide) ?_
  refine xp_weak [(0, .ref g), (1, .ref f), (2, .int (nI n)), (3, .int (nI a)), (4, .int (nI (5 + A.1 f 3 - a - n))), (5, .int (nI 0))] (xle_cons rfl (xle_cons rfl (xle_cons rfl (xle_cons rfl (xle_cons rfl (xle_cons rfl (xle_nil _))))))) (by simp [xnd]) ?_
  exact l57 hF0 hG hn hfs hf6 n 0 A (by omega) rfl
theorem c94 {z : Nat} {T : Nat → Option xT} {R : Nat → Nat → Option Nat} {A : xQ} {s st er : Nat} (hS : xSt0 T R s) : xF 94 [.ref s, .int (nI st), .int (nI er)] (xm z T R A) (.inr (none), xm z T R (xsI (xsI (xsI A s 2 st) s 4 er) s 3 0)) := by
  obtain ⟨s1, s2, s3, s4, s5, s6⟩ := hS
  refine xF_eq (xF_p (Nat.le_of_ble_eq_true rfl) ?_)
  refine xp_aload_n rfl rfl ?_
  refine xp_iload_n rfl rfl ?_
  refine xp_pfi rfl rfl (by decide) (by decide) (by decide) (by assumption) ?_
  refine xp_aload_n rfl rfl ?_
  refine xp_iload_n rfl rfl ?_
  refine xp_pfi rfl rfl (by decide) (by decide) (by decide) (by assumption) ?_
  refine xp_aload_n rfl rfl ?_
  refine xp_iconst (n := 0) rfl (by decide) ?_
  refine xp_pfi rfl rfl (by decide) (by decide) (by decide) (by assumption) ?_
  refine xp_return rfl (by decide) (by decide) (by decide) ?_
  rfl
def aOpen (A : xQ) (s fn : Nat) : xQ := xit (xnul1 (s + 5 + 4 * A.1 s 3 + 2) (s + 5 + 4 * A.1 s 3 + 3)) 5 0 (xsI (xsI (xsI (xsI A s 3 (A.1 s 3 + 1)) (s + 5 + 4 * A.1 s 3) 1 fn) (s + 5 + 4 * A.1 s 3) 2 0) (s + 5 + 4 * A.1 s 3) 3 0)
theorem c95 {z : Nat} {T : Nat → Option xT} {R : Nat → Nat → Option Nat} {A : xQ} {s fn : Nat} (hS : xSt0 T R s) (hd : A.1 s 3 < 5) : xF 95 [.ref s, .int (nI fn)] (xm z T R A) (.inr (some (.ref (s + 5 + 4 * A.1 s 3))), xm z T R (aOpen A s fn)) := by
  obtain ⟨s1, s2, s3, s4, s5, s6⟩ := hS
  obtain ⟨k1, hF⟩ := s6 _ hd
  obtain ⟨f1, f2, hC⟩ := hF
  refine xF_eq (xF_p (Nat.le_of_ble_eq_true rfl) ?_)
  refine xp_aload_n rfl rfl ?_
  refine xp_gfa rfl rfl (by decide) (by decide) (by assumption) (by assumption) ?_
  refine xp_aload_n rfl rfl ?_
  refine xp_gfi rfl rfl (by decide) (by decide) (by assumption) ?_
  refine xp_aald rfl (by assumption) (by decide) (by decide) (by omega) (by omega) (by assumption) ?_
  refine xp_astore_n rfl (by decide) ?_
  refine xp_aload_n rfl rfl ?_
  refine xp_dup rfl rfl ?_
  refine xp_gfi rfl rfl (by decide) (by decide) (by assumption) ?_
  refine xp_iconst (n := 1) rfl (by decide) ?_
  refine xp_iadd rfl ?_
  refine xp_pfi rfl rfl (by decide) (by decide) (by decide) (by assumption) ?_
  refine xp_aload_n rfl rfl ?_
  refine xp_iload_n rfl rfl ?_
  refine xp_pfi rfl rfl (by decide) (by decide) (by decide) (by assumption) ?_
  refine xp_aload_n rfl rfl ?_
  refine xp_iconst (n := 0) rfl (by decide) ?_
  refine xp_pfi rfl rfl (by decide) (by decide) (by decide) (by assumption) ?_
  refine xp_aload_n rfl rfl ?_
  refine xp_iconst (n := 0) rfl (by decide) ?_
  refine xp_pfi rfl rfl (by decide) (by decide) (by decide) (by assumption) ?_
  refine xp_aload_n rfl rfl ?_
  refine xp_gfa rfl rfl (by decide) (by decide) (by assumption) (by assumption) ?_
  refine xp_iconst (n := 0) rfl (by decide) ?_
  refine xp_iconst (n := 5) rfl (by decide) ?_
  refine xp_iv rfl rfl (Nat.le_of_ble_eq_true rfl) (by decide) (by decide) (by decide) (Nat.le_of_ble_eq_true rfl) rfl (xrcv1 (by decide) (by exact hC.1)) (c25 hC (by omega) (by omega) (by omega)) rfl ?_
  refine xp_aload_n rfl rfl ?_
  refine xp_areturn rfl (by decide) (by decide) (by decide) ?_
  rfl
theorem c96 {z : Nat} {T : Nat → Option xT} {R : Nat → Nat → Option Nat} {A : xQ} {s : Nat} (hS : xSt0 T R s) (h1 : 1 ≤ A.1 s 3) (h5 : A.1 s 3 ≤ 5) : xF 96 [.ref s] (xm z T R A) (.inr (some (.ref (s + 5 + 4 * (A.1 s 3 - 1)))), xm z T R A) := by
  obtain ⟨s1, s2, s3, s4, s5, s6⟩ := hS
  obtain ⟨k1, hF⟩ := s6 (A.1 s 3 - 1) (by omega)
  refine xF_eq (xF_p (Nat.le_of_ble_eq_true rfl) ?_)
  refine xp_aload_n rfl rfl ?_
  refine xp_gfa rfl rfl (by decide) (by decide) (by assumption) (by assumption) ?_
  refine xp_aload_n rfl rfl ?_
  refine xp_gfi rfl rfl (by decide) (by decide) (by assumption) ?_
  refine xp_iconst (n := 1) rfl (by decide) ?_
  refine xp_isub rfl (by omega) ?_
  refine xp_aald rfl (by assumption) (by decide) (by decide) (by omega) (by omega) (by assumption) ?_
  refine xp_areturn rfl (by decide) (by decide) (by decide) ?_
  rfl
theorem c25k {z : Nat} {T : Nat → Option xT} {R : Nat → Nat → Option Nat} {A : xQ} {a ka na n lo k : Nat} (hC : xC0 T R a ka na n) (hn : n < 2 ^ 31) (hh : lo + k ≤ n) : xF 25 [.ref a, .int (nI lo), .int (nI (lo + k))] (xm z T R A) (.inr none, xm z T R (xit (xnul1 ka na) k lo A)) := by
  have h9 := c25 (z := z) (A := A) (lo := lo) (hi := lo + k) hC hn (by omega) hh
  rw [show lo + k - lo = k by omega] at h9
  exact h9
def aClear (w : Nat) (A : xQ) : xQ := xsI (xit (fun i B => xsI B (w + 3) i 0) 24 0 A) (w + 2) 4 0
theorem l59 {z : Nat} {T : Nat → Option xT} {R : Nat → Nat → Option Nat} {w : Nat} (hH : xH0 T R w) : ∀ (m i : Nat) (A : xQ), i + m = 24 → xP 59 2 [(0, .ref (w + 2)), (1, .int (nI i))] [] 0 0 (xm z T R A) (fun r => r = (.inr (none), xm z T R (xsI (xit (fun i B => xsI B (w + 3) i 0) m i A) (w + 2) 4 0))) := by
  obtain ⟨h1, h2, h3, h4, h5, h6, h7, h8, h9, h10, h11, h12, hC⟩ := hH
  intro m
  induction m with
  | zero =>
    intro i A hi0
    refine xp_iload_n rfl rfl ?_
    refine xp_bipush (n := 24) rfl (by decide) ?_
    refine xp_icge 21 rfl (by decide) (by omega) (by omega) (fun h5 => ?_) (fun h5 => ?_)
    · skip
      refine xp_aload_n rfl rfl ?_
      refine xp_iconst (n := 0) rfl (by decide) ?_
      refine xp_pfi rfl rfl (by decide) (by decide) (by decide) (by assumption) ?_
      refine xp_return rfl (by decide) (by decide) (by decide) ?_
      rfl
    · exfalso; omega
  | succ m ih =>
    intro i A hi0
    refine xp_iload_n rfl rfl ?_
    refine xp_bipush (n := 24) rfl (by decide) ?_
    refine xp_icge 21 rfl (by decide) (by omega) (by omega) (fun h5 => ?_) (fun h5 => ?_)
    · exfalso; omega
    · skip
      refine xp_aload_n rfl rfl ?_
      refine xp_gfa rfl rfl (by decide) (by decide) (by assumption) (by assumption) ?_
      refine xp_iload_n rfl rfl ?_
      refine xp_iconst (n := 0) rfl (by decide) ?_
      refine xp_iast rfl (by assumption) (by omega) (by omega) ?_
      refine xp_iinc rfl rfl (by decide) (nI_inc _) ?_
      refine xp_goto 2 rfl (by decide) ?_
      refine xp_weak [(0, .ref (w + 2)), (1, .int (nI (i + 1)))] (xle_cons rfl (xle_cons rfl (xle_nil _))) (by simp [xnd]) ?_
      exact ih (i + 1) _ (by omega)
theorem c59 {z : Nat} {T : Nat → Option xT} {R : Nat → Nat → Option Nat} {A : xQ} {w : Nat} (hH : xH0 T R w) : xF 59 [.ref (w + 2)] (xm z T R A) (.inr (none), xm z T R (aClear w A)) := by
  refine xF_eq (xF_p (Nat.le_of_ble_eq_true rfl) ?_)
  refine xp_iconst (n := 0) rfl (by decide) ?_
  refine xp_istore_n rfl (by decide) ?_
  refine xp_weak [(0, .ref (w + 2)), (1, .int (nI 0))] (xle_cons rfl (xle_cons rfl (xle_nil _))) (by simp [xnd]) ?_
  exact l59 hH 24 0 A (by omega)
theorem c60 {z : Nat} {T : Nat → Option xT} {R : Nat → Nat → Option Nat} {A : xQ} {h n : Nat}  : xF 60 [.ref h, .int (nI n)] (xm z T R A) (.inr (some (.int (nI (n * 3)))), xm z T R A) := by
  refine xF_eq (xF_p (Nat.le_of_ble_eq_true rfl) ?_)
  refine xp_iload_n rfl rfl ?_
  refine xp_iconst (n := 3) rfl (by decide) ?_
  refine xp_imul rfl ?_
  refine xp_ireturn rfl (by decide) (by decide) (by decide) ?_
  rfl
def aShape (w o k fn sz : Nat) (A : xQ) : xQ := xsI (xsI (xsI A (w + 3) o k) (w + 4) o fn) (w + 5) o sz
theorem c62 {z : Nat} {T : Nat → Option xT} {R : Nat → Nat → Option Nat} {A : xQ} {w o k fn sz : Nat} (hH : xH0 T R w) (ho : o < 24) : xF 62 [.ref (w + 2), .int (nI o), .int (nI k), .int (nI fn), .int (nI sz)] (xm z T R A) (.inr (none), xm z T R (aShape w o k fn sz A)) := by
  obtain ⟨h1, h2, h3, h4, h5, h6, h7, h8, h9, h10, h11, h12, hC⟩ := hH
  refine xF_eq (xF_p (Nat.le_of_ble_eq_true rfl) ?_)
  refine xp_aload_n rfl rfl ?_
  refine xp_gfa rfl rfl (by decide) (by decide) (by assumption) (by assumption) ?_
  refine xp_iload_n rfl rfl ?_
  refine xp_iload_n rfl rfl ?_
  refine xp_iast rfl (by assumption) (by omega) (by omega) ?_
  refine xp_aload_n rfl rfl ?_
  refine xp_gfa rfl rfl (by decide) (by decide) (by assumption) (by assumption) ?_
  refine xp_iload_n rfl rfl ?_
  refine xp_iload_n rfl rfl ?_
  refine xp_iast rfl (by assumption) (by omega) (by omega) ?_
  refine xp_aload_n rfl rfl ?_
  refine xp_gfa rfl rfl (by decide) (by decide) (by assumption) (by assumption) ?_
  refine xp_iload_n rfl rfl ?_
  refine xp_iload rfl rfl ?_
  refine xp_iast rfl (by assumption) (by omega) (by omega) ?_
  refine xp_return rfl (by decide) (by decide) (by decide) ?_
  rfl
/-- the first free slot, of those from o on -/
def aFree (w : Nat) (A : xQ) : Nat → Nat → Nat
  | 0, o => o
  | n + 1, o => if A.1 (w + 3) o = 0 then o else aFree w A n (o + 1)
theorem aFree_le (w : Nat) (A : xQ) : ∀ n o, aFree w A n o ≤ o + n := by
  intro n
  induction n with
  | zero => intro o; exact Nat.le_refl _
  | succ n ih =>
    intro o
    unfold aFree
    split
    · omega
    · have := ih (o + 1); omega
/-- an object made in slot o -/
def aMakeAt (w k fn sz o : Nat) (A : xQ) : xQ := xsI (xit (xnul1 (w + 7) (w + 8)) 3 (o * 3) (aShape w o k fn sz A)) (w + 2) 4 ((xit (xnul1 (w + 7) (w + 8)) 3 (o * 3) (aShape w o k fn sz A)).1 (w + 2) 4 + 1)
def aMake (w k fn sz : Nat) (A : xQ) : xQ := aMakeAt w k fn sz (aFree w A 23 0) A
theorem l61b {z : Nat} {T : Nat → Option xT} {R : Nat → Nat → Option Nat} {A : xQ} {w k fn sz o : Nat} (hH : xH0 T R w) (ho : o < 24) : xP 61 26 [(0, .ref (w + 2)), (1, .int (nI k)), (2, .int (nI fn)), (3, .int (nI sz)), (4, .int (nI o))] [] 0 0 (xm z T R A) (fun r => r = (.inr (some (.int (nI o))), xm z T R (aMakeAt w k fn sz o A))) := by
  refine xp_aload_n rfl rfl ?_
  refine xp_iload rfl rfl ?_
  refine xp_iload_n rfl rfl ?_
  refine xp_iload_n rfl rfl ?_
  refine xp_iload_n rfl rfl ?_
  refine xp_iv rfl rfl (Nat.le_of_ble_eq_true rfl) (by decide) (by decide) (by decide) (Nat.le_of_ble_eq_true rfl) rfl (xrcv1 (by decide) (by exact hH.1)) (c62 hH (by omega)) rfl ?_
  refine xp_aload_n rfl rfl ?_
  refine xp_gfa rfl rfl (by decide) (by decide) (by first | assumption | exact hH.1 | exact hH.2.2.2.2.2.2.2.2.2.2.2.2.1) (by first | assumption | exact hH.2.1 | exact hH.2.2.2.2.1) ?_
  refine xp_aload_n rfl rfl ?_
  refine xp_iload rfl rfl ?_
  refine xp_iv rfl rfl (Nat.le_of_ble_eq_true rfl) (by decide) (by decide) (by decide) (Nat.le_of_ble_eq_true rfl) rfl (xrcv1 (by decide) (by exact hH.1)) (c60) rfl ?_
  refine xp_aload_n rfl rfl ?_
  refine xp_iload rfl rfl ?_
  refine xp_iv rfl rfl (Nat.le_of_ble_eq_true rfl) (by decide) (by decide) (by decide) (Nat.le_of_ble_eq_true rfl) rfl (xrcv1 (by decide) (by exact hH.1)) (c60) rfl ?_
  refine xp_iconst (n := 3) rfl (by decide) ?_
  refine xp_iadd rfl ?_
  refine xp_iv rfl rfl (Nat.le_of_ble_eq_true rfl) (by decide) (by decide) (by decide) (Nat.le_of_ble_eq_true rfl) rfl (xrcv1 (by decide) (by exact hH.2.2.2.2.2.2.2.2.2.2.2.2.1)) (c25k hH.2.2.2.2.2.2.2.2.2.2.2.2 (by omega) (by omega)) rfl ?_
  refine xp_aload_n rfl rfl ?_
  refine xp_dup rfl rfl ?_
  refine xp_gfi rfl rfl (by decide) (by decide) (by first | assumption | exact hH.1 | exact hH.2.2.2.2.2.2.2.2.2.2.2.2.1) ?_
  refine xp_iconst (n := 1) rfl (by decide) ?_
  refine xp_iadd rfl ?_
  refine xp_pfi rfl rfl (by decide) (by decide) (by decide) (by first | assumption | exact hH.1 | exact hH.2.2.2.2.2.2.2.2.2.2.2.2.1) ?_
  refine xp_iload rfl rfl ?_
  refine xp_ireturn rfl (by decide) (by decide) (by decide) ?_
  rfl
theorem l61 {z : Nat} {T : Nat → Option xT} {R : Nat → Nat → Option Nat} {A : xQ} {w k fn sz : Nat} (hH : xH0 T R w) (hk : ∀ o, o < 24 → A.1 (w + 3) o < 2 ^ 31) : ∀ (m i : Nat), i + m = 23 → xP 61 3 [(0, .ref (w + 2)), (1, .int (nI k)), (2, .int (nI fn)), (3, .int (nI sz)), (4, .int (nI i))] [] 0 0 (xm z T R A) (fun r => r = (.inr (some (.int (nI (aFree w A m i)))), xm z T R (aMakeAt w k fn sz (aFree w A m i) A))) := by
  intro m
  induction m with
  | zero =>
    intro i hi0
    refine xp_iload rfl rfl ?_
    refine xp_bipush (n := 23) rfl (by decide) ?_
    refine xp_icge 26 rfl (by decide) (by omega) (by omega) (fun h7 => ?_) (fun h7 => ?_)
    · skip
      refine xp_weak [(0, .ref (w + 2)), (1, .int (nI k)), (2, .int (nI fn)), (3, .int (nI sz)), (4, .int (nI i))] (xle_cons rfl (xle_cons rfl (xle_cons rfl (xle_cons rfl (xle_cons rfl (xle_nil _)))))) (by simp [xnd]) ?_
      exact l61b hH (by omega)
    · exfalso; omega
  | succ m ih =>
    intro i hi0
    have hk0 := hk i (by omega)
    refine xp_iload rfl rfl ?_
    refine xp_bipush (n := 23) rfl (by decide) ?_
    refine xp_icge 26 rfl (by decide) (by omega) (by omega) (fun h7 => ?_) (fun h7 => ?_)
    · exfalso; omega
    · skip
      refine xp_aload_n rfl rfl ?_
      refine xp_gfa rfl rfl (by decide) (by decide) (by first | assumption | exact hH.1 | exact hH.2.2.2.2.2.2.2.1) (by first | assumption | exact hH.2.1) ?_
      refine xp_iload rfl rfl ?_
      refine xp_iald rfl (by first | assumption | exact hH.1 | exact hH.2.2.2.2.2.2.2.1) (by omega) (by omega) ?_
      refine xp_ifeq 26 rfl (by decide) (by omega) (fun h17 => ?_) (fun h17 => ?_)
      · skip
        have e : aFree w A (m + 1) i = i := by
          show (if A.1 (w + 3) i = 0 then i else _) = _
          rw [if_pos h17]
        rw [e]
        refine xp_weak [(0, .ref (w + 2)), (1, .int (nI k)), (2, .int (nI fn)), (3, .int (nI sz)), (4, .int (nI i))] (xle_cons rfl (xle_cons rfl (xle_cons rfl (xle_cons rfl (xle_cons rfl (xle_nil _)))))) (by simp [xnd]) ?_
        exact l61b hH (by omega)
      · skip
        refine xp_iinc rfl rfl (by decide) (nI_inc _) ?_
        refine xp_goto 3 rfl (by decide) ?_
        refine xp_weak [(0, .ref (w + 2)), (1, .int (nI k)), (2, .int (nI fn)), (3, .int (nI sz)), (4, .int (nI (i + 1)))] (xle_cons rfl (xle_cons rfl (xle_cons rfl (xle_cons rfl (xle_cons rfl (xle_nil _)))))) (by simp [xnd]) ?_
        have e : aFree w A (m + 1) i = aFree w A m (i + 1) := by
          show (if A.1 (w + 3) i = 0 then i else _) = _
          rw [if_neg h17]
        rw [e]
        exact ih (i + 1) (by omega)
theorem c61 {z : Nat} {T : Nat → Option xT} {R : Nat → Nat → Option Nat} {A : xQ} {w k fn sz : Nat} (hH : xH0 T R w) (hk : ∀ o, o < 24 → A.1 (w + 3) o < 2 ^ 31) : xF 61 [.ref (w + 2), .int (nI k), .int (nI fn), .int (nI sz)] (xm z T R A) (.inr (some (.int (nI (aFree w A 23 0)))), xm z T R (aMake w k fn sz A)) := by
  refine xF_eq (xF_p (Nat.le_of_ble_eq_true rfl) ?_)
  refine xp_iconst (n := 0) rfl (by decide) ?_
  refine xp_istore rfl (by decide) ?_
  refine xp_weak [(0, .ref (w + 2)), (1, .int (nI k)), (2, .int (nI fn)), (3, .int (nI sz)), (4, .int (nI 0))] (xle_cons rfl (xle_cons rfl (xle_cons rfl (xle_cons rfl (xle_cons rfl (xle_nil _)))))) (by simp [xnd]) ?_
  exact l61 hH hk 23 0 (by omega)
def aBegin (w : Nat) (A : xQ) : xQ := xsI (xit (fun i B => xsI B (w + 9) i 4294967295) 24 0 A) (w + 2) 7 0
theorem l63 {z : Nat} {T : Nat → Option xT} {R : Nat → Nat → Option Nat} {w : Nat} (hH : xH0 T R w) : ∀ (m i : Nat) (A : xQ), i + m = 24 → xP 63 2 [(0, .ref (w + 2)), (1, .int (nI i))] [] 0 0 (xm z T R A) (fun r => r = (.inr (none), xm z T R (xsI (xit (fun i B => xsI B (w + 9) i 4294967295) m i A) (w + 2) 7 0))) := by
  obtain ⟨h1, h2, h3, h4, h5, h6, h7, h8, h9, h10, h11, h12, hC⟩ := hH
  intro m
  induction m with
  | zero =>
    intro i A hi0
    refine xp_iload_n rfl rfl ?_
    refine xp_bipush (n := 24) rfl (by decide) ?_
    refine xp_icge 21 rfl (by decide) (by omega) (by omega) (fun h5 => ?_) (fun h5 => ?_)
    · skip
      refine xp_aload_n rfl rfl ?_
      refine xp_iconst (n := 0) rfl (by decide) ?_
      refine xp_pfi rfl rfl (by decide) (by decide) (by decide) (by assumption) ?_
      refine xp_return rfl (by decide) (by decide) (by decide) ?_
      rfl
    · exfalso; omega
  | succ m ih =>
    intro i A hi0
    refine xp_iload_n rfl rfl ?_
    refine xp_bipush (n := 24) rfl (by decide) ?_
    refine xp_icge 21 rfl (by decide) (by omega) (by omega) (fun h5 => ?_) (fun h5 => ?_)
    · exfalso; omega
    · skip
      refine xp_aload_n rfl rfl ?_
      refine xp_gfa rfl rfl (by decide) (by decide) (by assumption) (by assumption) ?_
      refine xp_iload_n rfl rfl ?_
      refine xp_iconst (n := 4294967295) rfl (by decide) ?_
      refine xp_iast rfl (by assumption) (by omega) (by omega) ?_
      refine xp_iinc rfl rfl (by decide) (nI_inc _) ?_
      refine xp_goto 2 rfl (by decide) ?_
      refine xp_weak [(0, .ref (w + 2)), (1, .int (nI (i + 1)))] (xle_cons rfl (xle_cons rfl (xle_nil _))) (by simp [xnd]) ?_
      exact ih (i + 1) _ (by omega)
theorem c63 {z : Nat} {T : Nat → Option xT} {R : Nat → Nat → Option Nat} {A : xQ} {w : Nat} (hH : xH0 T R w) : xF 63 [.ref (w + 2)] (xm z T R A) (.inr (none), xm z T R (aBegin w A)) := by
  refine xF_eq (xF_p (Nat.le_of_ble_eq_true rfl) ?_)
  refine xp_iconst (n := 0) rfl (by decide) ?_
  refine xp_istore_n rfl (by decide) ?_
  refine xp_weak [(0, .ref (w + 2)), (1, .int (nI 0))] (xle_cons rfl (xle_cons rfl (xle_nil _))) (by simp [xnd]) ?_
  exact l63 hH 24 0 A (by omega)
/-- object n is met -/
def aMeet1 (w n : Nat) (A : xQ) : xQ := if A.1 (w + 9) n = 4294967295 then xsI (xsI (xsI A (w + 9) n (A.1 (w + 2) 7)) (w + 10) ((xsI A (w + 9) n (A.1 (w + 2) 7)).1 (w + 2) 7) n) (w + 2) 7 ((xsI (xsI A (w + 9) n (A.1 (w + 2) 7)) (w + 10) ((xsI A (w + 9) n (A.1 (w + 2) 7)).1 (w + 2) 7) n).1 (w + 2) 7 + 1) else A
/-- the value in cell i of (ka, na) is met -/
def aMeet (w ka na i : Nat) (A : xQ) : xQ := if A.1 ka i = 3 ∨ A.1 ka i = 4 then aMeet1 w (oN (A.2 na i)) A else A
theorem c64 {z : Nat} {T : Nat → Option xT} {R : Nat → Nat → Option Nat} {A : xQ} {w a ka na n i : Nat} (hH : xH0 T R w) (hD : xC0 T R a ka na n) (hi : i < n) (hn : n < 2 ^ 31) (hk : A.1 ka i ≤ 4) (ho : A.1 ka i = 3 ∨ A.1 ka i = 4 → oN (A.2 na i) < 24 ∧ A.1 (w + 9) (oN (A.2 na i)) < 2 ^ 32 ∧ (A.1 (w + 9) (oN (A.2 na i)) = 4294967295 → A.1 (w + 2) 7 < 24)) : xF 64 [.ref (w + 2), .ref a, .int (nI i)] (xm z T R A) (.inr (none), xm z T R (aMeet w ka na i A)) := by
  obtain ⟨h1, h2, h3, h4, h5, h6, h7, h8, h9, h10, h11, h12, hC⟩ := hH
  obtain ⟨d1, d2, d3, d4, d5⟩ := hD
  refine xF_eq (xF_p (Nat.le_of_ble_eq_true rfl) ?_)
  refine xp_aload_n rfl rfl ?_
  refine xp_gfa rfl rfl (by decide) (by decide) (by assumption) (by assumption) ?_
  refine xp_iload_n rfl rfl ?_
  refine xp_iald rfl (by assumption) (by omega) (by omega) ?_
  refine xp_iconst (n := 3) rfl (by decide) ?_
  refine xp_iceq 21 rfl (by decide) (by omega) (by omega) (fun h7 => ?_) (fun h7 => ?_)
  · skip
    obtain ⟨o1, o2, o3⟩ := ho (Or.inl h7)
    refine xp_aload_n rfl rfl ?_
    refine xp_gfa rfl rfl (by decide) (by decide) (by assumption) (by assumption) ?_
    refine xp_iload_n rfl rfl ?_
    refine xp_lald rfl (by assumption) (by omega) (by omega) ?_
    refine xp_l2i rfl ?_
    rw [oN_i]
    refine xp_istore_n rfl (by decide) ?_
    refine xp_aload_n rfl rfl ?_
    refine xp_gfa rfl rfl (by decide) (by decide) (by assumption) (by assumption) ?_
    refine xp_iload_n rfl rfl ?_
    refine xp_iald rfl (by assumption) (by omega) (by omega) ?_
    refine xp_iconst (n := 4294967295) rfl (by decide) ?_
    refine xp_icne 69 rfl (by decide) (by omega) (by omega) (fun h36 => ?_) (fun h36 => ?_)
    · skip
      refine xp_return rfl (by decide) (by decide) (by decide) ?_
      first
        | rw [show aMeet w ka na i A = aMeet1 w (oN (A.2 na i)) A from if_pos (Or.inl h7)]; unfold aMeet1; first | rw [if_neg h36] | (rw [if_pos h36])
        | rw [show aMeet w ka na i A = aMeet1 w (oN (A.2 na i)) A from if_pos (Or.inr h17)]; unfold aMeet1; first | rw [if_neg h36] | (rw [if_pos h36])
        | rw [show aMeet w ka na i A = A from if_neg (by omega)]
    · skip
      have o4 := o3 h36
      refine xp_aload_n rfl rfl ?_
      refine xp_gfa rfl rfl (by decide) (by decide) (by assumption) (by assumption) ?_
      refine xp_iload_n rfl rfl ?_
      refine xp_aload_n rfl rfl ?_
      refine xp_gfi rfl rfl (by decide) (by decide) (by assumption) ?_
      refine xp_iast rfl (by assumption) (by omega) (by omega) ?_
      refine xp_aload_n rfl rfl ?_
      refine xp_gfa rfl rfl (by decide) (by decide) (by assumption) (by assumption) ?_
      refine xp_aload_n rfl rfl ?_
      refine xp_gfi rfl rfl (by decide) (by decide) (by assumption) ?_
      refine xp_iload_n rfl rfl ?_
      refine xp_iast rfl (by assumption) (by rw [xsI_ne (Or.inl (xne h1 h11 (by simp)))]; exact o4) (by omega) ?_
      refine xp_aload_n rfl rfl ?_
      refine xp_dup rfl rfl ?_
      refine xp_gfi rfl rfl (by decide) (by decide) (by assumption) ?_
      refine xp_iconst (n := 1) rfl (by decide) ?_
      refine xp_iadd rfl ?_
      refine xp_pfi rfl rfl (by decide) (by decide) (by decide) (by assumption) ?_
      refine xp_return rfl (by decide) (by decide) (by decide) ?_
      first
        | rw [show aMeet w ka na i A = aMeet1 w (oN (A.2 na i)) A from if_pos (Or.inl h7)]; unfold aMeet1; first | rw [if_neg h36] | (rw [if_pos h36])
        | rw [show aMeet w ka na i A = aMeet1 w (oN (A.2 na i)) A from if_pos (Or.inr h17)]; unfold aMeet1; first | rw [if_neg h36] | (rw [if_pos h36])
        | rw [show aMeet w ka na i A = A from if_neg (by omega)]
  · skip
    refine xp_aload_n rfl rfl ?_
    refine xp_gfa rfl rfl (by decide) (by decide) (by assumption) (by assumption) ?_
    refine xp_iload_n rfl rfl ?_
    refine xp_iald rfl (by assumption) (by omega) (by omega) ?_
    refine xp_iconst (n := 4) rfl (by decide) ?_
    refine xp_iceq 21 rfl (by decide) (by omega) (by omega) (fun h17 => ?_) (fun h17 => ?_)
    · skip
      obtain ⟨o1, o2, o3⟩ := ho (Or.inr h17)
      refine xp_aload_n rfl rfl ?_
      refine xp_gfa rfl rfl (by decide) (by decide) (by assumption) (by assumption) ?_
      refine xp_iload_n rfl rfl ?_
      refine xp_lald rfl (by assumption) (by omega) (by omega) ?_
      refine xp_l2i rfl ?_
      rw [oN_i]
      refine xp_istore_n rfl (by decide) ?_
      refine xp_aload_n rfl rfl ?_
      refine xp_gfa rfl rfl (by decide) (by decide) (by assumption) (by assumption) ?_
      refine xp_iload_n rfl rfl ?_
      refine xp_iald rfl (by assumption) (by omega) (by omega) ?_
      refine xp_iconst (n := 4294967295) rfl (by decide) ?_
      refine xp_icne 69 rfl (by decide) (by omega) (by omega) (fun h36 => ?_) (fun h36 => ?_)
      · skip
        refine xp_return rfl (by decide) (by decide) (by decide) ?_
        first
          | rw [show aMeet w ka na i A = aMeet1 w (oN (A.2 na i)) A from if_pos (Or.inl h7)]; unfold aMeet1; first | rw [if_neg h36] | (rw [if_pos h36])
          | rw [show aMeet w ka na i A = aMeet1 w (oN (A.2 na i)) A from if_pos (Or.inr h17)]; unfold aMeet1; first | rw [if_neg h36] | (rw [if_pos h36])
          | rw [show aMeet w ka na i A = A from if_neg (by omega)]
      · skip
        have o4 := o3 h36
        refine xp_aload_n rfl rfl ?_
        refine xp_gfa rfl rfl (by decide) (by decide) (by assumption) (by assumption) ?_
        refine xp_iload_n rfl rfl ?_
        refine xp_aload_n rfl rfl ?_
        refine xp_gfi rfl rfl (by decide) (by decide) (by assumption) ?_
        refine xp_iast rfl (by assumption) (by omega) (by omega) ?_
        refine xp_aload_n rfl rfl ?_
        refine xp_gfa rfl rfl (by decide) (by decide) (by assumption) (by assumption) ?_
        refine xp_aload_n rfl rfl ?_
        refine xp_gfi rfl rfl (by decide) (by decide) (by assumption) ?_
        refine xp_iload_n rfl rfl ?_
        refine xp_iast rfl (by assumption) (by rw [xsI_ne (Or.inl (xne h1 h11 (by simp)))]; exact o4) (by omega) ?_
        refine xp_aload_n rfl rfl ?_
        refine xp_dup rfl rfl ?_
        refine xp_gfi rfl rfl (by decide) (by decide) (by assumption) ?_
        refine xp_iconst (n := 1) rfl (by decide) ?_
        refine xp_iadd rfl ?_
        refine xp_pfi rfl rfl (by decide) (by decide) (by decide) (by assumption) ?_
        refine xp_return rfl (by decide) (by decide) (by decide) ?_
        first
          | rw [show aMeet w ka na i A = aMeet1 w (oN (A.2 na i)) A from if_pos (Or.inl h7)]; unfold aMeet1; first | rw [if_neg h36] | (rw [if_pos h36])
          | rw [show aMeet w ka na i A = aMeet1 w (oN (A.2 na i)) A from if_pos (Or.inr h17)]; unfold aMeet1; first | rw [if_neg h36] | (rw [if_pos h36])
          | rw [show aMeet w ka na i A = A from if_neg (by omega)]
    · skip
      refine xp_return rfl (by decide) (by decide) (by decide) ?_
      first
        | rw [show aMeet w ka na i A = aMeet1 w (oN (A.2 na i)) A from if_pos (Or.inl h7)]; unfold aMeet1; first | rw [if_neg h36] | (rw [if_pos h36])
        | rw [show aMeet w ka na i A = aMeet1 w (oN (A.2 na i)) A from if_pos (Or.inr h17)]; unfold aMeet1; first | rw [if_neg h36] | (rw [if_pos h36])
        | rw [show aMeet w ka na i A = A from if_neg (by omega)]
def aDrop (w : Nat) (A : xQ) : xQ := xsI (xit (fun i B => if B.1 (w + 9) i = 4294967295 then xsI B (w + 3) i 0 else B) 24 0 A) (w + 2) 4 ((xit (fun i B => if B.1 (w + 9) i = 4294967295 then xsI B (w + 3) i 0 else B) 24 0 A).1 (w + 2) 7)
theorem l65 {z : Nat} {T : Nat → Option xT} {R : Nat → Nat → Option Nat} {w : Nat} (hH : xH0 T R w) : ∀ (m i : Nat) (A : xQ), i + m = 24 → (∀ o, o < 24 → A.1 (w + 9) o < 2 ^ 32) → xP 65 2 [(0, .ref (w + 2)), (1, .int (nI i))] [] 0 0 (xm z T R A) (fun r => r = (.inr none, xm z T R (xsI (xit (fun i B => if B.1 (w + 9) i = 4294967295 then xsI B (w + 3) i 0 else B) m i A) (w + 2) 4 ((xit (fun i B => if B.1 (w + 9) i = 4294967295 then xsI B (w + 3) i 0 else B) m i A).1 (w + 2) 7)))) := by
  obtain ⟨h1, h2, h3, h4, h5, h6, h7, h8, h9, h10, h11, h12, hC⟩ := hH
  intro m
  induction m with
  | zero =>
    intro i A hi0 hb0
    refine xp_iload_n rfl rfl ?_
    refine xp_bipush (n := 24) rfl (by decide) ?_
    refine xp_icge 31 rfl (by decide) (by omega) (by omega) (fun h5 => ?_) (fun h5 => ?_)
    · skip
      refine xp_aload_n rfl rfl ?_
      refine xp_aload_n rfl rfl ?_
      refine xp_gfi rfl rfl (by decide) (by decide) (by assumption) ?_
      refine xp_pfi rfl rfl (by decide) (by decide) (by decide) (by assumption) ?_
      refine xp_return rfl (by decide) (by decide) (by decide) ?_
      rfl
    · exfalso; omega
  | succ m ih =>
    intro i A hi0 hb0
    have hb1 := hb0 i (by omega)
    refine xp_iload_n rfl rfl ?_
    refine xp_bipush (n := 24) rfl (by decide) ?_
    refine xp_icge 31 rfl (by decide) (by omega) (by omega) (fun h5 => ?_) (fun h5 => ?_)
    · exfalso; omega
    · skip
      refine xp_aload_n rfl rfl ?_
      refine xp_gfa rfl rfl (by decide) (by decide) (by assumption) (by assumption) ?_
      refine xp_iload_n rfl rfl ?_
      refine xp_iald rfl (by assumption) (by omega) (by omega) ?_
      refine xp_iconst (n := 4294967295) rfl (by decide) ?_
      refine xp_icne 25 rfl (by decide) (by omega) (by omega) (fun h15 => ?_) (fun h15 => ?_)
      · skip
        refine xp_iinc rfl rfl (by decide) (nI_inc _) ?_
        refine xp_goto 2 rfl (by decide) ?_
        refine xp_weak [(0, .ref (w + 2)), (1, .int (nI (i + 1)))] (xle_cons rfl (xle_cons rfl (xle_nil _))) (by simp [xnd]) ?_
        have e : ∀ B, xit (fun i B => if B.1 (w + 9) i = 4294967295 then xsI B (w + 3) i 0 else B) (m + 1) i B = xit (fun i B => if B.1 (w + 9) i = 4294967295 then xsI B (w + 3) i 0 else B) m (i + 1) (if B.1 (w + 9) i = 4294967295 then xsI B (w + 3) i 0 else B) := fun B => rfl
        rw [e]
        first
          | rw [if_neg h15]; exact ih (i + 1) _ (by omega) hb0
          | rw [if_pos h15]; exact ih (i + 1) _ (by omega) (fun o ho => by rw [xsI_ne (Or.inl (by omega))]; exact hb0 o ho)
      · skip
        refine xp_aload_n rfl rfl ?_
        refine xp_gfa rfl rfl (by decide) (by decide) (by assumption) (by assumption) ?_
        refine xp_iload_n rfl rfl ?_
        refine xp_iconst (n := 0) rfl (by decide) ?_
        refine xp_iast rfl (by assumption) (by omega) (by omega) ?_
        refine xp_iinc rfl rfl (by decide) (nI_inc _) ?_
        refine xp_goto 2 rfl (by decide) ?_
        refine xp_weak [(0, .ref (w + 2)), (1, .int (nI (i + 1)))] (xle_cons rfl (xle_cons rfl (xle_nil _))) (by simp [xnd]) ?_
        have e : ∀ B, xit (fun i B => if B.1 (w + 9) i = 4294967295 then xsI B (w + 3) i 0 else B) (m + 1) i B = xit (fun i B => if B.1 (w + 9) i = 4294967295 then xsI B (w + 3) i 0 else B) m (i + 1) (if B.1 (w + 9) i = 4294967295 then xsI B (w + 3) i 0 else B) := fun B => rfl
        rw [e]
        first
          | rw [if_neg h15]; exact ih (i + 1) _ (by omega) hb0
          | rw [if_pos h15]; exact ih (i + 1) _ (by omega) (fun o ho => by rw [xsI_ne (Or.inl (by omega))]; exact hb0 o ho)
theorem c65 {z : Nat} {T : Nat → Option xT} {R : Nat → Nat → Option Nat} {A : xQ} {w : Nat} (hH : xH0 T R w) (hb : ∀ o, o < 24 → A.1 (w + 9) o < 2 ^ 32) : xF 65 [.ref (w + 2)] (xm z T R A) (.inr none, xm z T R (aDrop w A)) := by
  refine xF_eq (xF_p (Nat.le_of_ble_eq_true rfl) ?_)
  refine xp_iconst (n := 0) rfl (by decide) ?_
  refine xp_istore_n rfl (by decide) ?_
  refine xp_weak [(0, .ref (w + 2)), (1, .int (nI 0))] (xle_cons rfl (xle_cons rfl (xle_nil _))) (by simp [xnd]) ?_
  exact l65 hH 24 0 A (by omega) hb
