-- snapshot: the class's writer
def bB (v : Int64) (i : Nat) : Nat := oN (v >>> ((nI (8 * i)).toInt64 &&& 63))
def nBs (v : Int64) : Nat → Nat → List Nat
  | _, 0 => []
  | i, m + 1 => bB v i % 256 :: nBs v (i + 1) m
theorem nBs_len (v : Int64) : ∀ m i, (nBs v i m).length = m := by
  intro m
  induction m with
  | zero => intro i; rfl
  | succ m ih => intro i; show (nBs v (i + 1) m).length + 1 = _; rw [ih]
theorem nBs_256 (v : Int64) : ∀ m i x, x ∈ nBs v i m → x < 256 := by
  intro m
  induction m with
  | zero => intro i x h; cases h
  | succ m ih =>
    intro i x h
    rcases List.mem_cons.mp h with h | h
    · omega
    · exact ih _ _ h
/-- a value's bytes -/
def vBv (num : Nat → Nat) (k : Nat) (v : Int64) : List Nat := (k % 256) :: (if k = 1 then nBs v 0 4 else if k = 2 then nBs v 0 8 else if k = 0 then [] else [num (oN v) % 256])
def vsB (num : Nat → Nat) (A : xQ) (ka na : Nat) : Nat → Nat → List Nat
  | _, 0 => []
  | i, m + 1 => vBv num (A.1 ka i) (A.2 na i) ++ vsB num A ka na (i + 1) m
def fB (num : Nat → Nat) (A : xQ) (f : Nat) : List Nat := A.1 f 1 % 256 :: A.1 f 2 % 256 :: (vsB num A (f + 2) (f + 3) 0 5 ++ (A.1 f 3 % 256 :: vsB num A (f + 2) (f + 3) 5 (A.1 f 3)))
def fsB (num : Nat → Nat) (A : xQ) (s : Nat) : Nat → Nat → List Nat
  | _, 0 => []
  | i, m + 1 => fB num A (s + 5 + 4 * i) ++ fsB num A s (i + 1) m
def sB (num : Nat → Nat) (A : xQ) (s : Nat) : List Nat := A.1 s 2 % 256 :: (if A.1 s 2 = 1 then vsB num A (s + 3) (s + 4) 0 1 else if A.1 s 2 = 2 then [A.1 s 4 % 256] else A.1 s 3 % 256 :: fsB num A s 0 (A.1 s 3))
def ssB (num : Nat → Nat) (A : xQ) (w : Nat) : Nat → Nat → List Nat
  | _, 0 => []
  | i, m + 1 => sB num A (w + 11 + 25 * i) ++ ssB num A w (i + 1) m
def oB (num : Nat → Nat) (A : xQ) (w n : Nat) : List Nat := A.1 (w + 3) n % 256 :: ((if A.1 (w + 3) n = 4 then [A.1 (w + 4) n % 256, A.1 (w + 5) n % 256] else []) ++ vsB num A (w + 7) (w + 8) (n * 3) (A.1 (w + 5) n))
def osB (num : Nat → Nat) (A : xQ) (w : Nat) : Nat → Nat → List Nat
  | _, 0 => []
  | i, m + 1 => oB num A w (A.1 (w + 10) i) ++ osB num A w (i + 1) m
section LB
variable {num : Nat → Nat} {A : xQ}
theorem vBv_len {k : Nat} {v : Int64} : (vBv num k v).length ≤ 9 := by
  unfold vBv
  rw [List.length_cons]
  split
  · rw [nBs_len]; omega
  · split
    · rw [nBs_len]; omega
    · split
      · exact Nat.le_of_ble_eq_true rfl
      · exact Nat.le_of_ble_eq_true rfl
theorem vBv_256 {k : Nat} {v : Int64} : ∀ x, x ∈ vBv num k v → x < 256 := by
  intro x h
  unfold vBv at h
  rcases List.mem_cons.mp h with h | h
  · omega
  · split at h
    · exact nBs_256 _ _ _ _ h
    · split at h
      · exact nBs_256 _ _ _ _ h
      · split at h
        · cases h
        · rw [List.mem_singleton] at h; omega
theorem vsB_len {ka na : Nat} : ∀ m i, (vsB num A ka na i m).length ≤ 9 * m := by
  intro m
  induction m with
  | zero => intro i; exact Nat.le_refl _
  | succ m ih =>
    intro i
    show (_ ++ vsB num A ka na (i + 1) m).length ≤ _
    rw [List.length_append]
    have h1 := ih (i + 1)
    have h2 := vBv_len (num := num) (k := A.1 ka i) (v := A.2 na i)
    omega
theorem vsB_256 {ka na : Nat} : ∀ m i x, x ∈ vsB num A ka na i m → x < 256 := by
  intro m
  induction m with
  | zero => intro i x h; cases h
  | succ m ih =>
    intro i x h
    rcases List.mem_append.mp h with h | h
    · exact vBv_256 _ h
    · exact ih _ _ h
theorem fB_len {f : Nat} (h : A.1 f 3 ≤ 6) : (fB num A f).length ≤ 102 := by
  unfold fB
  rw [List.length_cons, List.length_cons, List.length_append, List.length_cons]
  have h1 := vsB_len (num := num) (A := A) (ka := f + 2) (na := f + 3) 5 0
  have h2 := vsB_len (num := num) (A := A) (ka := f + 2) (na := f + 3) (A.1 f 3) 5
  omega
theorem fB_256 {f : Nat} : ∀ x, x ∈ fB num A f → x < 256 := by
  intro x h
  unfold fB at h
  simp only [List.mem_cons, List.mem_append] at h
  rcases h with h | h | h | h | h
  · omega
  · omega
  · exact vsB_256 _ _ _ h
  · omega
  · exact vsB_256 _ _ _ h
theorem fsB_len {s : Nat} (h : ∀ k, k < 5 → k < A.1 s 3 → A.1 (s + 5 + 4 * k) 3 ≤ 6) (h5 : A.1 s 3 ≤ 5) : ∀ m i, i + m = A.1 s 3 → (fsB num A s i m).length ≤ 102 * m := by
  intro m
  induction m with
  | zero => intro i _; exact Nat.le_refl _
  | succ m ih =>
    intro i hi
    show (_ ++ fsB num A s (i + 1) m).length ≤ _
    rw [List.length_append]
    have h1 := ih (i + 1) (by omega)
    have h2 := fB_len (num := num) (h i (by omega) (by omega))
    omega
theorem fsB_256 {s : Nat} : ∀ m i x, x ∈ fsB num A s i m → x < 256 := by
  intro m
  induction m with
  | zero => intro i x h; cases h
  | succ m ih =>
    intro i x h
    rcases List.mem_append.mp h with h | h
    · exact fB_256 _ h
    · exact ih _ _ h
theorem sB_len {w s : Nat} (h : SOk w A s) : (sB num A s).length ≤ 512 := by
  obtain ⟨s1, s2, s3, s4, s5, s6, s7⟩ := h
  unfold sB
  rw [List.length_cons]
  split
  · have := vsB_len (num := num) (A := A) (ka := s + 3) (na := s + 4) 1 0
    omega
  · split
    · exact Nat.le_of_ble_eq_true rfl
    · rw [List.length_cons]
      have := fsB_len (num := num) (fun k _ q => (s7 k q).2.2.1) s2 (A.1 s 3) 0 (by omega)
      omega
theorem sB_256 {s : Nat} : ∀ x, x ∈ sB num A s → x < 256 := by
  intro x h
  unfold sB at h
  rcases List.mem_cons.mp h with h | h
  · omega
  · split at h
    · exact vsB_256 _ _ _ h
    · split at h
      · rw [List.mem_singleton] at h; omega
      · rcases List.mem_cons.mp h with h | h
        · omega
        · exact fsB_256 _ _ _ h
theorem ssB_len {w n : Nat} (h : ∀ t, t < n → SOk w A (w + 11 + 25 * t)) : ∀ m i, i + m = n → (ssB num A w i m).length ≤ 512 * m := by
  intro m
  induction m with
  | zero => intro i _; exact Nat.le_refl _
  | succ m ih =>
    intro i hi
    show (_ ++ ssB num A w (i + 1) m).length ≤ _
    rw [List.length_append]
    have h1 := ih (i + 1) (by omega)
    have h2 := sB_len (num := num) (h i (by omega))
    omega
theorem ssB_256 {w : Nat} : ∀ m i x, x ∈ ssB num A w i m → x < 256 := by
  intro m
  induction m with
  | zero => intro i x h; cases h
  | succ m ih =>
    intro i x h
    rcases List.mem_append.mp h with h | h
    · exact sB_256 _ h
    · exact ih _ _ h
theorem oB_len {w n : Nat} (h : A.1 (w + 5) n ≤ 3) : (oB num A w n).length ≤ 30 := by
  unfold oB
  rw [List.length_cons, List.length_append]
  have h1 := vsB_len (num := num) (A := A) (ka := w + 7) (na := w + 8) (A.1 (w + 5) n) (n * 3)
  split
  · show 2 + _ + 1 ≤ 30; omega
  · show 0 + _ + 1 ≤ 30; omega
theorem oB_256 {w n : Nat} : ∀ x, x ∈ oB num A w n → x < 256 := by
  intro x h
  unfold oB at h
  rcases List.mem_cons.mp h with h | h
  · omega
  · rcases List.mem_append.mp h with h | h
    · split at h
      · simp only [List.mem_cons, List.not_mem_nil, or_false] at h; omega
      · cases h
    · exact vsB_256 _ _ _ h
theorem osB_len {w n : Nat} (h : ∀ q, q < n → A.1 (w + 5) (A.1 (w + 10) q) ≤ 3) : ∀ m i, i + m = n → (osB num A w i m).length ≤ 30 * m := by
  intro m
  induction m with
  | zero => intro i _; exact Nat.le_refl _
  | succ m ih =>
    intro i hi
    show (_ ++ osB num A w (i + 1) m).length ≤ _
    rw [List.length_append]
    have h1 := ih (i + 1) (by omega)
    have h2 := oB_len (num := num) (h i (by omega))
    omega
theorem osB_256 {w : Nat} : ∀ m i x, x ∈ osB num A w i m → x < 256 := by
  intro m
  induction m with
  | zero => intro i x h; cases h
  | succ m ih =>
    intro i x h
    rcases List.mem_append.mp h with h | h
    · exact oB_256 _ h
    · exact ih _ _ h
end LB
/-- the image holds l -/
def wA (A : xQ) (l : List Nat) : xQ := (fun a j => if a = 99 ∧ j = 1 then l.length else if a = 100 ∧ j < l.length then l.getD j 0 else A.1 a j, A.2)
theorem wA_ne {A : xQ} {l : List Nat} {a j : Nat} (h : a ≠ 99 ∨ j ≠ 1) (h2 : a ≠ 100) : (wA A l).1 a j = A.1 a j := by
  show (if a = 99 ∧ j = 1 then l.length else if a = 100 ∧ j < l.length then l.getD j 0 else A.1 a j) = _
  rw [if_neg (by omega), if_neg (by omega)]
theorem wA_sz {A : xQ} {l : List Nat} : (wA A l).1 99 1 = l.length := by
  show (if 99 = 99 ∧ 1 = 1 then l.length else if 99 = 100 ∧ 1 < l.length then l.getD 1 0 else A.1 99 1) = _
  exact if_pos ⟨rfl, rfl⟩
theorem wA_2 {A : xQ} {l : List Nat} : (wA A l).2 = A.2 := rfl
theorem wA_get {A : xQ} {l : List Nat} {j : Nat} (h : j < l.length) : (wA A l).1 100 j = l.getD j 0 := by
  show (if 100 = 99 ∧ j = 1 then l.length else if 100 = 100 ∧ j < l.length then l.getD j 0 else A.1 100 j) = _
  rw [if_neg (by omega), if_pos ⟨rfl, h⟩]
theorem wA_nil {A : xQ} : xsI A 99 1 0 = wA A [] := by
  refine Prod.ext (funext fun a => funext fun j => ?_) rfl
  show (xsI A 99 1 0).1 a j = (if a = 99 ∧ j = 1 then 0 else if a = 100 ∧ j < 0 then _ else A.1 a j)
  by_cases h : a = 99 ∧ j = 1
  · rw [if_pos h, h.1, h.2, xsI_eq]
  · rw [if_neg h, if_neg (by omega), xsI_ne (by omega)]
theorem getD_app {l : List Nat} {b j : Nat} : (l ++ [b]).getD j 0 = if j = l.length then b else l.getD j 0 := by
  induction l generalizing j with
  | nil => cases j with
    | zero => rfl
    | succ j => rfl
  | cons x l ih => cases j with
    | zero => rfl
    | succ j =>
      show (l ++ [b]).getD j 0 = if j + 1 = l.length + 1 then b else l.getD j 0
      rw [ih]
      by_cases h : j = l.length
      · rw [if_pos h, if_pos (by omega)]
      · rw [if_neg h, if_neg (by omega)]
theorem wA_app {A : xQ} {l : List Nat} {b : Nat} : aApd (wA A l) b = wA A (l ++ [b % 256]) := by
  unfold aApd
  rw [wA_sz]
  refine Prod.ext (funext fun a => funext fun j => ?_) rfl
  show (xsI (xsI (wA A l) 100 l.length (b % 256)) 99 1 (l.length + 1)).1 a j = (if a = 99 ∧ j = 1 then (l ++ [b % 256]).length else if a = 100 ∧ j < (l ++ [b % 256]).length then (l ++ [b % 256]).getD j 0 else A.1 a j)
  rw [List.length_append, getD_app]
  show _ = (if a = 99 ∧ j = 1 then l.length + 1 else if a = 100 ∧ j < l.length + 1 then _ else A.1 a j)
  by_cases h : a = 99 ∧ j = 1
  · rw [if_pos h, h.1, h.2, xsI_eq]
  · rw [if_neg h, xsI_ne (by omega)]
    by_cases h2 : a = 100 ∧ j = l.length
    · rw [if_pos (by omega), if_pos h2.2, h2.1, h2.2, xsI_eq]
    · rw [xsI_ne (by omega)]
      show (if a = 99 ∧ j = 1 then l.length else if a = 100 ∧ j < l.length then l.getD j 0 else A.1 a j) = _
      rw [if_neg h]
      by_cases h3 : a = 100 ∧ j < l.length
      · rw [if_pos h3, if_pos (by omega), if_neg (by omega)]
      · rw [if_neg h3, if_neg (by omega)]
theorem c67w {z : Nat} {T : Nat → Option xT} {R : Nat → Nat → Option Nat} {A : xQ} {w b : Nat} {l : List Nat} (hL : xLay T R w) (hs : l.length < 2400) : xF 67 [.ref 99, .int (nI b)] (xm z T R (wA A l)) (.inr none, xm z T R (wA A (l ++ [b % 256]))) := by
  have h := c67 (z := z) (A := wA A l) (b := b) hL (by rw [wA_sz]; exact hs)
  rw [wA_app] at h
  exact h
theorem wA_r {A : xQ} : ∀ l a j, a ≠ 99 → a ≠ 100 → (wA A l).1 a j = A.1 a j := fun l a j q1 q2 => wA_ne (Or.inl q1) q2
theorem l109 {z : Nat} {T : Nat → Option xT} {R : Nat → Nat → Option Nat} {A : xQ} {w n : Nat} {v : Int64} (hL : xLay T R w) (hn : n ≤ 8) : ∀ (m : Nat) (i : Nat) (l : List Nat), i + m = n → l.length + m ≤ 2400 → xP 109 3 [(0, .ref 101), (1, .long v), (3, .int (nI n)), (4, .int (nI i))] [] 0 0 (xm z T R (wA A l)) (fun r => r = (.inr none, xm z T R (wA A (l ++ nBs v i m)))) := by
  intro m
  induction m with
  | zero =>
    intro i l hi hl
    refine xp_iload rfl rfl ?_
    refine xp_iload_n rfl rfl ?_
    refine xp_icge 30 rfl (by decide) (by omega) (by omega) (fun h6 => ?_) (fun h6 => ?_)
    · skip
      refine xp_return rfl (by decide) (by decide) (by decide) ?_
      show _ = (_, xm z T R (wA A (l ++ [])))
      rw [List.append_nil]
    · exfalso; omega
  | succ m ih =>
    intro i l hi hl
    refine xp_iload rfl rfl ?_
    refine xp_iload_n rfl rfl ?_
    refine xp_icge 30 rfl (by decide) (by omega) (by omega) (fun h6 => ?_) (fun h6 => ?_)
    · exfalso; omega
    · skip
      refine xp_aload_n rfl rfl ?_
      refine xp_gfa rfl rfl (by decide) (by decide) (by first | assumption | exact hL.t rfl) (by first | assumption | exact hL.r rfl | exact hL.2.2.2.2.2) ?_
      refine xp_lload_n rfl rfl ?_
      refine xp_bipush (n := 8) rfl (by decide) ?_
      refine xp_iload rfl rfl ?_
      refine xp_imul rfl ?_
      refine xp_lshr rfl ?_
      refine xp_l2i rfl ?_
      rw [oN_i (v >>> ((nI (8 * i)).toInt64 &&& 63))]
      refine xp_iv rfl rfl (Nat.le_of_ble_eq_true rfl) (by decide) (by decide) (by decide) (Nat.le_of_ble_eq_true rfl) rfl (xrcv1 (by decide) (by first | assumption | exact hL.t rfl)) (c67w hL (by omega)) rfl ?_
      refine xp_iinc rfl rfl (by decide) (nI_inc _) ?_
      refine xp_goto 3 rfl (by decide) ?_
      refine xp_weak [(0, .ref 101), (1, .long v), (3, .int (nI n)), (4, .int (nI (i + 1)))] (xle_cons rfl (xle_cons rfl (xle_cons rfl (xle_cons rfl (xle_nil _))))) (by simp [xnd]) ?_
      have h := ih (i + 1) (l ++ [bB v i % 256]) (by omega) (by (try simp only [List.length_append, List.length_cons, List.length_nil, nBs_len]); omega)
      rw [List.append_assoc] at h
      exact h
theorem c109 {z : Nat} {T : Nat → Option xT} {R : Nat → Nat → Option Nat} {A : xQ} {w n : Nat} {v : Int64} {l : List Nat} (hL : xLay T R w) (hn : n ≤ 8) (hl : l.length + n ≤ 2400) : xF 109 [.ref 101, .long v, .int (nI n)] (xm z T R (wA A l)) (.inr none, xm z T R (wA A (l ++ nBs v 0 n))) := by
  refine xF_eq (xF_p (Nat.le_of_ble_eq_true rfl) ?_)
  refine xp_iconst (n := 0) rfl (by decide) ?_
  refine xp_istore rfl (by decide) ?_
  refine xp_weak [(0, .ref 101), (1, .long v), (3, .int (nI n)), (4, .int (nI 0))] (xle_cons rfl (xle_cons rfl (xle_cons rfl (xle_cons rfl (xle_nil _))))) (by simp [xnd]) ?_
  exact l109 hL hn n 0 l (by omega) hl
theorem vBv_0 {num : Nat → Nat} {k : Nat} {v : Int64} (h : k = 0) : vBv num k v = [k % 256] := by subst h; rfl
theorem vBv_1 {num : Nat → Nat} {k : Nat} {v : Int64} (h : k = 1) : vBv num k v = k % 256 :: nBs v 0 4 := by subst h; rfl
theorem vBv_2 {num : Nat → Nat} {k : Nat} {v : Int64} (h : k = 2) : vBv num k v = k % 256 :: nBs v 0 8 := by subst h; rfl
theorem vBv_3 {num : Nat → Nat} {k : Nat} {v : Int64} (h : k = 3) : vBv num k v = [k % 256, num (oN v) % 256] := by subst h; rfl
theorem vBv_4 {num : Nat → Nat} {k : Nat} {v : Int64} (h : k = 4) : vBv num k v = [k % 256, num (oN v) % 256] := by subst h; rfl
theorem l108 {z : Nat} {T : Nat → Option xT} {R : Nat → Nat → Option Nat} {A : xQ} {w a ka na n lo hi : Nat} (hL : xLay T R w) (hW : xW0 T R w) (hC : xC0 T R a ka na n) (hn : n < 2 ^ 31) (hka : ka ≠ 99 ∧ ka ≠ 100) (hwa : w = 12 ∨ w = 103) (hhi : hi ≤ n) (hv : ∀ c, lo ≤ c → c < hi → A.1 ka c ≤ 4 ∧ (3 ≤ A.1 ka c → oN (A.2 na c) < 24)) : ∀ (m : Nat) (i : Nat) (l l2 : List Nat), i + m = hi → lo ≤ i → l.length + 9 * m ≤ 2400 → l2 = l ++ vsB (A.1 (w + 9)) A ka na i m → xP 108 3 [(0, .ref 101), (1, .ref a), (3, .int (nI hi)), (4, .ref (w + 2)), (5, .int (nI i))] [] 0 0 (xm z T R (wA A l)) (fun r => r = (.inr none, xm z T R (wA A l2))) := by
  have rk := wA_r (A := A)
  obtain ⟨h1, h2, h3, h4, h5, h6, h7, h8, h9, h10, h11, h12, hCC⟩ := id hW.2.2.2.2.1
  obtain ⟨c1, c2, c3, c4, c5⟩ := hC
  intro m
  induction m with
  | zero =>
    intro i l l2 hi1 hlo hl hl2
    refine xp_iload rfl rfl ?_
    refine xp_iload_n rfl rfl ?_
    refine xp_icge 121 rfl (by decide) (by omega) (by omega) (fun h6 => ?_) (fun h6 => ?_)
    · skip
      refine xp_return rfl (by decide) (by decide) (by decide) ?_
      rw [hl2]
      show _ = (_, xm z T R (wA A (l ++ [])))
      rw [List.append_nil]
    · exfalso; omega
  | succ m ih =>
    intro i l l2 hi1 hlo hl hl2
    obtain ⟨v1, v2⟩ := hv i hlo (by omega)
    have hk5 : A.1 ka i = 0 ∨ A.1 ka i = 1 ∨ A.1 ka i = 2 ∨ A.1 ka i = 3 ∨ A.1 ka i = 4 := by omega
    refine xp_iload rfl rfl ?_
    refine xp_iload_n rfl rfl ?_
    refine xp_icge 121 rfl (by decide) (by omega) (by omega) (fun h6 => ?_) (fun h6 => ?_)
    · exfalso; omega
    · skip
      refine xp_aload_n rfl rfl ?_
      refine xp_gfa rfl rfl (by decide) (by decide) (by first | assumption | exact hL.t rfl) (by first | assumption | exact hL.r rfl | exact hL.2.2.2.2.2) ?_
      refine xp_aload_n rfl rfl ?_
      refine xp_gfa rfl rfl (by decide) (by decide) (by first | assumption | exact hL.t rfl) (by first | assumption | exact hL.r rfl | exact hL.2.2.2.2.2) ?_
      refine xp_iload rfl rfl ?_
      refine xp_iald rfl (by first | assumption | exact hL.t rfl) (by omega) (by omega) ?_
      rw [rk _ ka i hka.1 hka.2]
      refine xp_iv rfl rfl (Nat.le_of_ble_eq_true rfl) (by decide) (by decide) (by decide) (Nat.le_of_ble_eq_true rfl) rfl (xrcv1 (by decide) (by first | assumption | exact hL.t rfl)) (c67w hL (by omega)) rfl ?_
      refine xp_aload_n rfl rfl ?_
      refine xp_gfa rfl rfl (by decide) (by decide) (by first | assumption | exact hL.t rfl) (by first | assumption | exact hL.r rfl | exact hL.2.2.2.2.2) ?_
      refine xp_iload rfl rfl ?_
      refine xp_iald rfl (by first | assumption | exact hL.t rfl) (by omega) (by omega) ?_
      rw [rk _ ka i hka.1 hka.2]
      rcases hk5 with hk | hk | hk | hk | hk
      · have hvb := vBv_0 (num := A.1 (w + 9)) (v := A.2 na i) hk; rw [hk]
        refine xp_tsw 115 rfl (by omega) (by first | rfl | (rw [if_pos (by omega)]) | (rw [if_neg (by omega)]; rfl)) (by decide) ?_
        refine xp_iinc rfl rfl (by decide) (nI_inc _) ?_
        refine xp_goto 3 rfl (by decide) ?_
        refine xp_weak [(0, .ref 101), (1, .ref a), (3, .int (nI hi)), (4, .ref (w + 2)), (5, .int (nI (i + 1)))] (xle_cons rfl (xle_cons rfl (xle_cons rfl (xle_cons rfl (xle_cons rfl (xle_nil _)))))) (by simp [xnd]) ?_
        refine ih (i + 1) _ _ (by omega) (by omega) (by (try simp only [List.length_append, List.length_cons, List.length_nil, nBs_len]); omega) ?_
        rw [hl2]
        show l ++ (vBv (A.1 (w + 9)) (A.1 ka i) (A.2 na i) ++ vsB (A.1 (w + 9)) A ka na (i + 1) m) = _
        rw [hvb, hk]
        simp only [List.append_assoc, List.cons_append, List.nil_append]
      · have hvb := vBv_1 (num := A.1 (w + 9)) (v := A.2 na i) hk; rw [hk]
        refine xp_tsw 60 rfl (by omega) (by first | rfl | (rw [if_pos (by omega)]) | (rw [if_neg (by omega)]; rfl)) (by decide) ?_
        refine xp_aload_n rfl rfl ?_
        refine xp_aload_n rfl rfl ?_
        refine xp_gfa rfl rfl (by decide) (by decide) (by first | assumption | exact hL.t rfl) (by first | assumption | exact hL.r rfl | exact hL.2.2.2.2.2) ?_
        refine xp_iload rfl rfl ?_
        refine xp_lald rfl (by first | assumption | exact hL.t rfl) (by omega) (by omega) ?_
        rw [wA_2]
        refine xp_iconst (n := 4) rfl (by decide) ?_
        refine xp_iv rfl rfl (Nat.le_of_ble_eq_true rfl) (by decide) (by decide) (by decide) (Nat.le_of_ble_eq_true rfl) rfl (xrcv1 (by decide) (by first | assumption | exact hL.t rfl)) (c109 hL (by omega) (by (try simp only [List.length_append, List.length_cons, List.length_nil, nBs_len]); omega)) rfl ?_
        refine xp_goto 115 rfl (by decide) ?_
        refine xp_iinc rfl rfl (by decide) (nI_inc _) ?_
        refine xp_goto 3 rfl (by decide) ?_
        refine xp_weak [(0, .ref 101), (1, .ref a), (3, .int (nI hi)), (4, .ref (w + 2)), (5, .int (nI (i + 1)))] (xle_cons rfl (xle_cons rfl (xle_cons rfl (xle_cons rfl (xle_cons rfl (xle_nil _)))))) (by simp [xnd]) ?_
        refine ih (i + 1) _ _ (by omega) (by omega) (by (try simp only [List.length_append, List.length_cons, List.length_nil, nBs_len]); omega) ?_
        rw [hl2]
        show l ++ (vBv (A.1 (w + 9)) (A.1 ka i) (A.2 na i) ++ vsB (A.1 (w + 9)) A ka na (i + 1) m) = _
        rw [hvb, hk]
        simp only [List.append_assoc, List.cons_append, List.nil_append]
      · have hvb := vBv_2 (num := A.1 (w + 9)) (v := A.2 na i) hk; rw [hk]
        refine xp_tsw 75 rfl (by omega) (by first | rfl | (rw [if_pos (by omega)]) | (rw [if_neg (by omega)]; rfl)) (by decide) ?_
        refine xp_aload_n rfl rfl ?_
        refine xp_aload_n rfl rfl ?_
        refine xp_gfa rfl rfl (by decide) (by decide) (by first | assumption | exact hL.t rfl) (by first | assumption | exact hL.r rfl | exact hL.2.2.2.2.2) ?_
        refine xp_iload rfl rfl ?_
        refine xp_lald rfl (by first | assumption | exact hL.t rfl) (by omega) (by omega) ?_
        rw [wA_2]
        refine xp_bipush (n := 8) rfl (by decide) ?_
        refine xp_iv rfl rfl (Nat.le_of_ble_eq_true rfl) (by decide) (by decide) (by decide) (Nat.le_of_ble_eq_true rfl) rfl (xrcv1 (by decide) (by first | assumption | exact hL.t rfl)) (c109 hL (by omega) (by (try simp only [List.length_append, List.length_cons, List.length_nil, nBs_len]); omega)) rfl ?_
        refine xp_goto 115 rfl (by decide) ?_
        refine xp_iinc rfl rfl (by decide) (nI_inc _) ?_
        refine xp_goto 3 rfl (by decide) ?_
        refine xp_weak [(0, .ref 101), (1, .ref a), (3, .int (nI hi)), (4, .ref (w + 2)), (5, .int (nI (i + 1)))] (xle_cons rfl (xle_cons rfl (xle_cons rfl (xle_cons rfl (xle_cons rfl (xle_nil _)))))) (by simp [xnd]) ?_
        refine ih (i + 1) _ _ (by omega) (by omega) (by (try simp only [List.length_append, List.length_cons, List.length_nil, nBs_len]); omega) ?_
        rw [hl2]
        show l ++ (vBv (A.1 (w + 9)) (A.1 ka i) (A.2 na i) ++ vsB (A.1 (w + 9)) A ka na (i + 1) m) = _
        rw [hvb, hk]
        simp only [List.append_assoc, List.cons_append, List.nil_append]
      · have hvb := vBv_3 (num := A.1 (w + 9)) (v := A.2 na i) hk; have ho := v2 (by omega); rw [hk]
        refine xp_tsw 91 rfl (by omega) (by first | rfl | (rw [if_pos (by omega)]) | (rw [if_neg (by omega)]; rfl)) (by decide) ?_
        refine xp_aload_n rfl rfl ?_
        refine xp_gfa rfl rfl (by decide) (by decide) (by first | assumption | exact hL.t rfl) (by first | assumption | exact hL.r rfl | exact hL.2.2.2.2.2) ?_
        refine xp_aload rfl rfl ?_
        refine xp_gfa rfl rfl (by decide) (by decide) (by first | assumption | exact hL.t rfl) (by first | assumption | exact hL.r rfl | exact hL.2.2.2.2.2) ?_
        refine xp_aload_n rfl rfl ?_
        refine xp_gfa rfl rfl (by decide) (by decide) (by first | assumption | exact hL.t rfl) (by first | assumption | exact hL.r rfl | exact hL.2.2.2.2.2) ?_
        refine xp_iload rfl rfl ?_
        refine xp_lald rfl (by first | assumption | exact hL.t rfl) (by omega) (by omega) ?_
        rw [wA_2]
        refine xp_l2i rfl ?_
        rw [oN_i]
        refine xp_iald rfl (by first | assumption | exact hL.t rfl) (by omega) (by omega) ?_
        rw [rk _ (w + 9) _ (by omega) (by omega)]
        refine xp_iv rfl rfl (Nat.le_of_ble_eq_true rfl) (by decide) (by decide) (by decide) (Nat.le_of_ble_eq_true rfl) rfl (xrcv1 (by decide) (by first | assumption | exact hL.t rfl)) (c67w hL (by (try simp only [List.length_append, List.length_cons, List.length_nil, nBs_len]); omega)) rfl ?_
        refine xp_goto 115 rfl (by decide) ?_
        refine xp_iinc rfl rfl (by decide) (nI_inc _) ?_
        refine xp_goto 3 rfl (by decide) ?_
        refine xp_weak [(0, .ref 101), (1, .ref a), (3, .int (nI hi)), (4, .ref (w + 2)), (5, .int (nI (i + 1)))] (xle_cons rfl (xle_cons rfl (xle_cons rfl (xle_cons rfl (xle_cons rfl (xle_nil _)))))) (by simp [xnd]) ?_
        refine ih (i + 1) _ _ (by omega) (by omega) (by (try simp only [List.length_append, List.length_cons, List.length_nil, nBs_len]); omega) ?_
        rw [hl2]
        show l ++ (vBv (A.1 (w + 9)) (A.1 ka i) (A.2 na i) ++ vsB (A.1 (w + 9)) A ka na (i + 1) m) = _
        rw [hvb, hk]
        simp only [List.append_assoc, List.cons_append, List.nil_append]
      · have hvb := vBv_4 (num := A.1 (w + 9)) (v := A.2 na i) hk; have ho := v2 (by omega); rw [hk]
        refine xp_tsw 91 rfl (by omega) (by first | rfl | (rw [if_pos (by omega)]) | (rw [if_neg (by omega)]; rfl)) (by decide) ?_
        refine xp_aload_n rfl rfl ?_
        refine xp_gfa rfl rfl (by decide) (by decide) (by first | assumption | exact hL.t rfl) (by first | assumption | exact hL.r rfl | exact hL.2.2.2.2.2) ?_
        refine xp_aload rfl rfl ?_
        refine xp_gfa rfl rfl (by decide) (by decide) (by first | assumption | exact hL.t rfl) (by first | assumption | exact hL.r rfl | exact hL.2.2.2.2.2) ?_
        refine xp_aload_n rfl rfl ?_
        refine xp_gfa rfl rfl (by decide) (by decide) (by first | assumption | exact hL.t rfl) (by first | assumption | exact hL.r rfl | exact hL.2.2.2.2.2) ?_
        refine xp_iload rfl rfl ?_
        refine xp_lald rfl (by first | assumption | exact hL.t rfl) (by omega) (by omega) ?_
        rw [wA_2]
        refine xp_l2i rfl ?_
        rw [oN_i]
        refine xp_iald rfl (by first | assumption | exact hL.t rfl) (by omega) (by omega) ?_
        rw [rk _ (w + 9) _ (by omega) (by omega)]
        refine xp_iv rfl rfl (Nat.le_of_ble_eq_true rfl) (by decide) (by decide) (by decide) (Nat.le_of_ble_eq_true rfl) rfl (xrcv1 (by decide) (by first | assumption | exact hL.t rfl)) (c67w hL (by (try simp only [List.length_append, List.length_cons, List.length_nil, nBs_len]); omega)) rfl ?_
        refine xp_goto 115 rfl (by decide) ?_
        refine xp_iinc rfl rfl (by decide) (nI_inc _) ?_
        refine xp_goto 3 rfl (by decide) ?_
        refine xp_weak [(0, .ref 101), (1, .ref a), (3, .int (nI hi)), (4, .ref (w + 2)), (5, .int (nI (i + 1)))] (xle_cons rfl (xle_cons rfl (xle_cons rfl (xle_cons rfl (xle_cons rfl (xle_nil _)))))) (by simp [xnd]) ?_
        refine ih (i + 1) _ _ (by omega) (by omega) (by (try simp only [List.length_append, List.length_cons, List.length_nil, nBs_len]); omega) ?_
        rw [hl2]
        show l ++ (vBv (A.1 (w + 9)) (A.1 ka i) (A.2 na i) ++ vsB (A.1 (w + 9)) A ka na (i + 1) m) = _
        rw [hvb, hk]
        simp only [List.append_assoc, List.cons_append, List.nil_append]
theorem c108 {z : Nat} {T : Nat → Option xT} {R : Nat → Nat → Option Nat} {A : xQ} {w a ka na n lo m : Nat} {l : List Nat} (hL : xLay T R w) (hW : xW0 T R w) (hC : xC0 T R a ka na n) (hn : n < 2 ^ 31) (hka : ka ≠ 99 ∧ ka ≠ 100) (hwa : w = 12 ∨ w = 103) (hhi : lo + m ≤ n) (hv : ∀ c, lo ≤ c → c < lo + m → A.1 ka c ≤ 4 ∧ (3 ≤ A.1 ka c → oN (A.2 na c) < 24)) (hl : l.length + 9 * m ≤ 2400) : xF 108 [.ref 101, .ref a, .int (nI lo), .int (nI (lo + m)), .ref (w + 2)] (xm z T R (wA A l)) (.inr none, xm z T R (wA A (l ++ vsB (A.1 (w + 9)) A ka na lo m))) := by
  refine xF_eq (xF_p (Nat.le_of_ble_eq_true rfl) ?_)
  refine xp_iload_n rfl rfl ?_
  refine xp_istore rfl (by decide) ?_
  refine xp_weak [(0, .ref 101), (1, .ref a), (3, .int (nI (lo + m))), (4, .ref (w + 2)), (5, .int (nI lo))] (xle_cons rfl (xle_cons rfl (xle_cons rfl (xle_cons rfl (xle_cons rfl (xle_nil _)))))) (by simp [xnd]) ?_
  exact l108 hL hW hC hn hka hwa hhi hv m lo l _ (by omega) (by omega) hl rfl
theorem VC.n {w : Nat} {A : xQ} {ka na i : Nat} (h : VC w A ka na i) : A.1 ka i ≤ 4 ∧ (3 ≤ A.1 ka i → oN (A.2 na i) < 24) := by
  refine ⟨h.1, fun q => ?_⟩
  obtain ⟨o, h1, h2, _⟩ := h.2 q
  rw [h2, oN_lN (by omega)]
  exact h1
theorem c106 {z : Nat} {T : Nat → Option xT} {R : Nat → Nat → Option Nat} {A : xQ} {w f : Nat} {l : List Nat} (hL : xLay T R w) (hW : xW0 T R w) (hwa : w = 12 ∨ w = 103) (hF : xF0 T R f) (hfa : f + 3 < 99 ∨ 103 < f) (hk : FOk w A f) (hl : l.length + 102 ≤ 2400) : xF 106 [.ref 101, .ref f, .ref (w + 2)] (xm z T R (wA A l)) (.inr none, xm z T R (wA A (l ++ fB (A.1 (w + 9)) A f))) := by
  have rk := wA_r (A := A)
  obtain ⟨f1, f2, hC⟩ := hF
  obtain ⟨k1, k2, k3, k4, k5⟩ := hk
  have n1 := vsB_len (num := A.1 (w + 9)) (A := A) (ka := f + 2) (na := f + 3) 5 0
  have hfin : l ++ fB (A.1 (w + 9)) A f = ((((l ++ [A.1 f 1 % 256]) ++ [A.1 f 2 % 256]) ++ vsB (A.1 (w + 9)) A (f + 2) (f + 3) 0 5) ++ [A.1 f 3 % 256]) ++ vsB (A.1 (w + 9)) A (f + 2) (f + 3) 5 (A.1 f 3) := by
    unfold fB
    simp only [List.append_assoc, List.cons_append, List.nil_append]
  rw [hfin]
  refine xF_eq (xF_p (Nat.le_of_ble_eq_true rfl) ?_)
  refine xp_aload_n rfl rfl ?_
  refine xp_gfa rfl rfl (by decide) (by decide) (by first | assumption | exact hL.t rfl) (by first | assumption | exact hL.r rfl | exact hL.2.2.2.2.2) ?_
  refine xp_aload_n rfl rfl ?_
  refine xp_gfi rfl rfl (by decide) (by decide) (by first | assumption | exact hL.t rfl) ?_
  rw [rk _ f 1 (by omega) (by omega)]
  refine xp_iv rfl rfl (Nat.le_of_ble_eq_true rfl) (by decide) (by decide) (by decide) (Nat.le_of_ble_eq_true rfl) rfl (xrcv1 (by decide) (by first | assumption | exact hL.t rfl)) (c67w hL (by (try simp only [List.length_append, List.length_cons, List.length_nil]); omega)) rfl ?_
  refine xp_aload_n rfl rfl ?_
  refine xp_gfa rfl rfl (by decide) (by decide) (by first | assumption | exact hL.t rfl) (by first | assumption | exact hL.r rfl | exact hL.2.2.2.2.2) ?_
  refine xp_aload_n rfl rfl ?_
  refine xp_gfi rfl rfl (by decide) (by decide) (by first | assumption | exact hL.t rfl) ?_
  rw [rk _ f 2 (by omega) (by omega)]
  refine xp_iv rfl rfl (Nat.le_of_ble_eq_true rfl) (by decide) (by decide) (by decide) (Nat.le_of_ble_eq_true rfl) rfl (xrcv1 (by decide) (by first | assumption | exact hL.t rfl)) (c67w hL (by (try simp only [List.length_append, List.length_cons, List.length_nil]); omega)) rfl ?_
  refine xp_aload_n rfl rfl ?_
  refine xp_aload_n rfl rfl ?_
  refine xp_gfa rfl rfl (by decide) (by decide) (by first | assumption | exact hL.t rfl) (by first | assumption | exact hL.r rfl | exact hL.2.2.2.2.2) ?_
  refine xp_iconst (n := 0) rfl (by decide) ?_
  refine xp_iconst (n := 5) rfl (by decide) ?_
  refine xp_aload_n rfl rfl ?_
  refine xp_iv rfl rfl (Nat.le_of_ble_eq_true rfl) (by decide) (by decide) (by decide) (Nat.le_of_ble_eq_true rfl) rfl (xrcv1 (by decide) (by first | assumption | exact hL.t rfl)) (c108 (m := 5) hL hW hC (by omega) (by omega) hwa (by omega) (fun c _ q => (k5 c (by omega)).n) (by (try simp only [List.length_append, List.length_cons, List.length_nil]); omega)) rfl ?_
  refine xp_aload_n rfl rfl ?_
  refine xp_gfa rfl rfl (by decide) (by decide) (by first | assumption | exact hL.t rfl) (by first | assumption | exact hL.r rfl | exact hL.2.2.2.2.2) ?_
  refine xp_aload_n rfl rfl ?_
  refine xp_gfi rfl rfl (by decide) (by decide) (by first | assumption | exact hL.t rfl) ?_
  rw [rk _ f 3 (by omega) (by omega)]
  refine xp_iv rfl rfl (Nat.le_of_ble_eq_true rfl) (by decide) (by decide) (by decide) (Nat.le_of_ble_eq_true rfl) rfl (xrcv1 (by decide) (by first | assumption | exact hL.t rfl)) (c67w hL (by (try simp only [List.length_append, List.length_cons, List.length_nil]); omega)) rfl ?_
  refine xp_aload_n rfl rfl ?_
  refine xp_aload_n rfl rfl ?_
  refine xp_gfa rfl rfl (by decide) (by decide) (by first | assumption | exact hL.t rfl) (by first | assumption | exact hL.r rfl | exact hL.2.2.2.2.2) ?_
  refine xp_iconst (n := 5) rfl (by decide) ?_
  refine xp_iconst (n := 5) rfl (by decide) ?_
  refine xp_aload_n rfl rfl ?_
  refine xp_gfi rfl rfl (by decide) (by decide) (by first | assumption | exact hL.t rfl) ?_
  rw [rk _ f 3 (by omega) (by omega)]
  refine xp_iadd rfl ?_
  refine xp_aload_n rfl rfl ?_
  refine xp_iv rfl rfl (Nat.le_of_ble_eq_true rfl) (by decide) (by decide) (by decide) (Nat.le_of_ble_eq_true rfl) rfl (xrcv1 (by decide) (by first | assumption | exact hL.t rfl)) (c108 hL hW hC (by omega) (by omega) hwa (by omega) (fun c _ q => (k5 c (by omega)).n) (by (try simp only [List.length_append, List.length_cons, List.length_nil]); omega)) rfl ?_
  refine xp_return rfl (by decide) (by decide) (by decide) ?_
  rfl
theorem l105 {z : Nat} {T : Nat → Option xT} {R : Nat → Nat → Option Nat} {A : xQ} {w s : Nat} (hL : xLay T R w) (hW : xW0 T R w) (hwa : w = 12 ∨ w = 103) (hS : xSt0 T R s) (hsa : s + 25 < 99 ∨ 103 < s) (hk : SOk w A s) : ∀ (m : Nat) (i : Nat) (l : List Nat), i + m = A.1 s 3 → l.length + 102 * m ≤ 2400 → xP 105 64 [(0, .ref 101), (1, .ref s), (2, .ref (w + 2)), (3, .int (nI i))] [] 0 0 (xm z T R (wA A l)) (fun r => r = (.inr none, xm z T R (wA A (l ++ fsB (A.1 (w + 9)) A s i m)))) := by
  have rk := wA_r (A := A)
  obtain ⟨s1, s2, s3, s4, s5, s6⟩ := hS
  obtain ⟨k1, k2, k3, k4, k5, k6, k7⟩ := hk
  intro m
  induction m with
  | zero =>
    intro i l hi hl
    refine xp_iload_n rfl rfl ?_
    refine xp_aload_n rfl rfl ?_
    refine xp_gfi rfl rfl (by decide) (by decide) (by first | assumption | exact hL.t rfl) ?_
    rw [rk _ s 3 (by omega) (by omega)]
    refine xp_icge 89 rfl (by decide) (by omega) (by omega) (fun h69 => ?_) (fun h69 => ?_)
    · skip
      refine xp_return rfl (by decide) (by decide) (by decide) ?_
      show _ = (_, xm z T R (wA A (l ++ [])))
      rw [List.append_nil]
    · exfalso; omega
  | succ m ih =>
    intro i l hi hl
    obtain ⟨g1, g2⟩ := s6 i (by omega)
    have hki := k7 i (by omega)
    have hln := fB_len (num := A.1 (w + 9)) hki.2.2.1
    refine xp_iload_n rfl rfl ?_
    refine xp_aload_n rfl rfl ?_
    refine xp_gfi rfl rfl (by decide) (by decide) (by first | assumption | exact hL.t rfl) ?_
    rw [rk _ s 3 (by omega) (by omega)]
    refine xp_icge 89 rfl (by decide) (by omega) (by omega) (fun h69 => ?_) (fun h69 => ?_)
    · exfalso; omega
    · skip
      refine xp_aload_n rfl rfl ?_
      refine xp_aload_n rfl rfl ?_
      refine xp_gfa rfl rfl (by decide) (by decide) (by first | assumption | exact hL.t rfl) (by first | assumption | exact hL.r rfl | exact hL.2.2.2.2.2) ?_
      refine xp_iload_n rfl rfl ?_
      refine xp_aald rfl (by first | assumption | exact hL.t rfl) (by decide) (by decide) (by omega) (by omega) (by first | assumption | exact hL.r rfl | exact hL.2.2.2.2.2) ?_
      refine xp_aload_n rfl rfl ?_
      refine xp_iv rfl rfl (Nat.le_of_ble_eq_true rfl) (by decide) (by decide) (by decide) (Nat.le_of_ble_eq_true rfl) rfl (xrcv1 (by decide) (by first | assumption | exact hL.t rfl)) (c106 hL hW hwa g2 (by omega) hki (by omega)) rfl ?_
      refine xp_iinc rfl rfl (by decide) (nI_inc _) ?_
      refine xp_goto 64 rfl (by decide) ?_
      refine xp_weak [(0, .ref 101), (1, .ref s), (2, .ref (w + 2)), (3, .int (nI (i + 1)))] (xle_cons rfl (xle_cons rfl (xle_cons rfl (xle_cons rfl (xle_nil _))))) (by simp [xnd]) ?_
      have h := ih (i + 1) (l ++ fB (A.1 (w + 9)) A (s + 5 + 4 * i)) (by omega) (by rw [List.length_append]; omega)
      rw [List.append_assoc] at h
      exact h
theorem c105 {z : Nat} {T : Nat → Option xT} {R : Nat → Nat → Option Nat} {A : xQ} {w s : Nat} {l : List Nat} (hL : xLay T R w) (hW : xW0 T R w) (hwa : w = 12 ∨ w = 103) (hS : xSt0 T R s) (hsa : s + 25 < 99 ∨ 103 < s) (hk : SOk w A s) (hl : l.length + 512 ≤ 2400) : xF 105 [.ref 101, .ref s, .ref (w + 2)] (xm z T R (wA A l)) (.inr none, xm z T R (wA A (l ++ sB (A.1 (w + 9)) A s))) := by
  have hk0 := hk
  have hS0 := hS
  have rk := wA_r (A := A)
  obtain ⟨s1, s2, s3, s4, s5, s6⟩ := hS
  obtain ⟨k1, k2, k3, k4, k5, k6, k7⟩ := hk
  by_cases q1 : A.1 s 2 = 1
  · have hfin : l ++ sB (A.1 (w + 9)) A s = (l ++ [A.1 s 2 % 256]) ++ vsB (A.1 (w + 9)) A (s + 3) (s + 4) 0 1 := by
      unfold sB
      rw [if_pos q1, List.append_assoc]
      rfl
    have hv1 : ∀ c, 0 ≤ c → c < 0 + 1 → A.1 (s + 3) c ≤ 4 ∧ (3 ≤ A.1 (s + 3) c → oN (A.2 (s + 4) c) < 24) := fun c _ q => by
      have e : c = 0 := by omega
      subst e
      exact (k6 q1).n
    rw [hfin]
    refine xF_eq (xF_p (Nat.le_of_ble_eq_true rfl) ?_)
    refine xp_aload_n rfl rfl ?_
    refine xp_gfa rfl rfl (by decide) (by decide) (by first | assumption | exact hL.t rfl) (by first | assumption | exact hL.r rfl | exact hL.2.2.2.2.2) ?_
    refine xp_aload_n rfl rfl ?_
    refine xp_gfi rfl rfl (by decide) (by decide) (by first | assumption | exact hL.t rfl) ?_
    rw [rk _ s 2 (by omega) (by omega)]
    refine xp_iv rfl rfl (Nat.le_of_ble_eq_true rfl) (by decide) (by decide) (by decide) (Nat.le_of_ble_eq_true rfl) rfl (xrcv1 (by decide) (by first | assumption | exact hL.t rfl)) (c67w hL (by (try simp only [List.length_append, List.length_cons, List.length_nil]); omega)) rfl ?_
    refine xp_aload_n rfl rfl ?_
    refine xp_gfi rfl rfl (by decide) (by decide) (by first | assumption | exact hL.t rfl) ?_
    refine xp_iconst (n := 1) rfl (by decide) ?_
    rw [rk _ s 2 (by omega) (by omega)]
    refine xp_icne 31 rfl (by decide) (by omega) (by omega) (fun h16 => ?_) (fun h16 => ?_)
    · exfalso; omega
    · skip
      refine xp_aload_n rfl rfl ?_
      refine xp_aload_n rfl rfl ?_
      refine xp_gfa rfl rfl (by decide) (by decide) (by first | assumption | exact hL.t rfl) (by first | assumption | exact hL.r rfl | exact hL.2.2.2.2.2) ?_
      refine xp_iconst (n := 0) rfl (by decide) ?_
      refine xp_iconst (n := 1) rfl (by decide) ?_
      refine xp_aload_n rfl rfl ?_
      refine xp_iv rfl rfl (Nat.le_of_ble_eq_true rfl) (by decide) (by decide) (by decide) (Nat.le_of_ble_eq_true rfl) rfl (xrcv1 (by decide) (by first | assumption | exact hL.t rfl)) (c108 (m := 1) hL hW s5 (by omega) (by omega) hwa (by omega) hv1 (by (try simp only [List.length_append, List.length_cons, List.length_nil]); omega)) rfl ?_
      refine xp_return rfl (by decide) (by decide) (by decide) ?_
      rfl
  · by_cases q2 : A.1 s 2 = 2
    · have hfin : l ++ sB (A.1 (w + 9)) A s = (l ++ [A.1 s 2 % 256]) ++ [A.1 s 4 % 256] := by
        unfold sB
        rw [if_neg q1, if_pos q2, List.append_assoc]
        rfl
      rw [hfin]
      refine xF_eq (xF_p (Nat.le_of_ble_eq_true rfl) ?_)
      refine xp_aload_n rfl rfl ?_
      refine xp_gfa rfl rfl (by decide) (by decide) (by first | assumption | exact hL.t rfl) (by first | assumption | exact hL.r rfl | exact hL.2.2.2.2.2) ?_
      refine xp_aload_n rfl rfl ?_
      refine xp_gfi rfl rfl (by decide) (by decide) (by first | assumption | exact hL.t rfl) ?_
      rw [rk _ s 2 (by omega) (by omega)]
      refine xp_iv rfl rfl (Nat.le_of_ble_eq_true rfl) (by decide) (by decide) (by decide) (Nat.le_of_ble_eq_true rfl) rfl (xrcv1 (by decide) (by first | assumption | exact hL.t rfl)) (c67w hL (by (try simp only [List.length_append, List.length_cons, List.length_nil]); omega)) rfl ?_
      refine xp_aload_n rfl rfl ?_
      refine xp_gfi rfl rfl (by decide) (by decide) (by first | assumption | exact hL.t rfl) ?_
      refine xp_iconst (n := 1) rfl (by decide) ?_
      rw [rk _ s 2 (by omega) (by omega)]
      refine xp_icne 31 rfl (by decide) (by omega) (by omega) (fun h16 => ?_) (fun h16 => ?_)
      · skip
        refine xp_aload_n rfl rfl ?_
        refine xp_gfi rfl rfl (by decide) (by decide) (by first | assumption | exact hL.t rfl) ?_
        refine xp_iconst (n := 2) rfl (by decide) ?_
        rw [rk _ s 2 (by omega) (by omega)]
        refine xp_icne 51 rfl (by decide) (by omega) (by omega) (fun h36 => ?_) (fun h36 => ?_)
        · exfalso; omega
        · skip
          refine xp_aload_n rfl rfl ?_
          refine xp_gfa rfl rfl (by decide) (by decide) (by first | assumption | exact hL.t rfl) (by first | assumption | exact hL.r rfl | exact hL.2.2.2.2.2) ?_
          refine xp_aload_n rfl rfl ?_
          refine xp_gfi rfl rfl (by decide) (by decide) (by first | assumption | exact hL.t rfl) ?_
          rw [rk _ s 4 (by omega) (by omega)]
          refine xp_iv rfl rfl (Nat.le_of_ble_eq_true rfl) (by decide) (by decide) (by decide) (Nat.le_of_ble_eq_true rfl) rfl (xrcv1 (by decide) (by first | assumption | exact hL.t rfl)) (c67w hL (by (try simp only [List.length_append, List.length_cons, List.length_nil]); omega)) rfl ?_
          refine xp_return rfl (by decide) (by decide) (by decide) ?_
          rfl
      · exfalso; omega
    · have hfin : l ++ sB (A.1 (w + 9)) A s = ((l ++ [A.1 s 2 % 256]) ++ [A.1 s 3 % 256]) ++ fsB (A.1 (w + 9)) A s 0 (A.1 s 3) := by
        unfold sB
        rw [if_neg q1, if_neg q2]
        simp only [List.append_assoc, List.cons_append, List.nil_append]
      rw [hfin]
      refine xF_eq (xF_p (Nat.le_of_ble_eq_true rfl) ?_)
      refine xp_aload_n rfl rfl ?_
      refine xp_gfa rfl rfl (by decide) (by decide) (by first | assumption | exact hL.t rfl) (by first | assumption | exact hL.r rfl | exact hL.2.2.2.2.2) ?_
      refine xp_aload_n rfl rfl ?_
      refine xp_gfi rfl rfl (by decide) (by decide) (by first | assumption | exact hL.t rfl) ?_
      rw [rk _ s 2 (by omega) (by omega)]
      refine xp_iv rfl rfl (Nat.le_of_ble_eq_true rfl) (by decide) (by decide) (by decide) (Nat.le_of_ble_eq_true rfl) rfl (xrcv1 (by decide) (by first | assumption | exact hL.t rfl)) (c67w hL (by (try simp only [List.length_append, List.length_cons, List.length_nil]); omega)) rfl ?_
      refine xp_aload_n rfl rfl ?_
      refine xp_gfi rfl rfl (by decide) (by decide) (by first | assumption | exact hL.t rfl) ?_
      refine xp_iconst (n := 1) rfl (by decide) ?_
      rw [rk _ s 2 (by omega) (by omega)]
      refine xp_icne 31 rfl (by decide) (by omega) (by omega) (fun h16 => ?_) (fun h16 => ?_)
      · skip
        refine xp_aload_n rfl rfl ?_
        refine xp_gfi rfl rfl (by decide) (by decide) (by first | assumption | exact hL.t rfl) ?_
        refine xp_iconst (n := 2) rfl (by decide) ?_
        rw [rk _ s 2 (by omega) (by omega)]
        refine xp_icne 51 rfl (by decide) (by omega) (by omega) (fun h36 => ?_) (fun h36 => ?_)
        · skip
          refine xp_aload_n rfl rfl ?_
          refine xp_gfa rfl rfl (by decide) (by decide) (by first | assumption | exact hL.t rfl) (by first | assumption | exact hL.r rfl | exact hL.2.2.2.2.2) ?_
          refine xp_aload_n rfl rfl ?_
          refine xp_gfi rfl rfl (by decide) (by decide) (by first | assumption | exact hL.t rfl) ?_
          rw [rk _ s 3 (by omega) (by omega)]
          refine xp_iv rfl rfl (Nat.le_of_ble_eq_true rfl) (by decide) (by decide) (by decide) (Nat.le_of_ble_eq_true rfl) rfl (xrcv1 (by decide) (by first | assumption | exact hL.t rfl)) (c67w hL (by (try simp only [List.length_append, List.length_cons, List.length_nil]); omega)) rfl ?_
          refine xp_iconst (n := 0) rfl (by decide) ?_
          refine xp_istore_n rfl (by decide) ?_
          refine xp_weak [(0, .ref 101), (1, .ref s), (2, .ref (w + 2)), (3, .int (nI 0))] (xle_cons rfl (xle_cons rfl (xle_cons rfl (xle_cons rfl (xle_nil _))))) (by simp [xnd]) ?_
          exact l105 hL hW hwa hS0 hsa hk0 (A.1 s 3) 0 _ (by omega) (by (try simp only [List.length_append, List.length_cons, List.length_nil]); omega)
        · exfalso; omega
      · exfalso; omega
theorem OOk.sz3 {w o : Nat} {A : xQ} (h : OOk w A o) (hn : A.1 (w + 3) o ≠ 0) : A.1 (w + 5) o ≤ 3 := by
  have h1 := h.1
  rcases h1 with h1 | h1 | h1
  · exact absurd h1 hn
  · have := h.2.1 h1; omega
  · have := (h.2.2.1 h1).2; omega
theorem l107 {z : Nat} {T : Nat → Option xT} {R : Nat → Nat → Option Nat} {A : xQ} {w : Nat} (hL : xLay T R w) (hW : xW0 T R w) (hwa : w = 12 ∨ w = 103) (hk : ∀ o, o < 24 → OOk w A o) (hfc : A.1 (w + 2) 7 ≤ 24) (hfo : ∀ q, q < A.1 (w + 2) 7 → A.1 (w + 10) q < 24 ∧ A.1 (w + 3) (A.1 (w + 10) q) ≠ 0) : ∀ (m : Nat) (i : Nat) (l l2 : List Nat), i + m = A.1 (w + 2) 7 → l.length + 30 * m ≤ 2400 → l2 = l ++ osB (A.1 (w + 9)) A w i m → xP 107 13 [(0, .ref 101), (1, .ref (w + 2)), (2, .int (nI i))] [] 0 0 (xm z T R (wA A l)) (fun r => r = (.inr none, xm z T R (wA A l2))) := by
  have rk := wA_r (A := A)
  obtain ⟨h1, h2, h3, h4, h5, h6, h7, h8, h9, h10, h11, h12, hCC⟩ := id hW.2.2.2.2.1
  intro m
  induction m with
  | zero =>
    intro i l l2 hi hl hl2
    refine xp_iload_n rfl rfl ?_
    refine xp_aload_n rfl rfl ?_
    refine xp_gfi rfl rfl (by decide) (by decide) (by first | assumption | exact hL.t rfl) ?_
    rw [rk _ (w + 2) 7 (by omega) (by omega)]
    refine xp_icge 110 rfl (by decide) (by omega) (by omega) (fun h18 => ?_) (fun h18 => ?_)
    · skip
      refine xp_return rfl (by decide) (by decide) (by decide) ?_
      rw [hl2]
      show _ = (_, xm z T R (wA A (l ++ [])))
      rw [List.append_nil]
    · exfalso; omega
  | succ m ih =>
    intro i l l2 hi hl hl2
    obtain ⟨g1, g2⟩ := hfo i (by omega)
    have hO := hk _ g1
    have hz3 := hO.sz3 g2
    have hvl := vsB_len (num := A.1 (w + 9)) (A := A) (ka := w + 7) (na := w + 8) (A.1 (w + 5) (A.1 (w + 10) i)) (A.1 (w + 10) i * 3)
    have hx1 := hO.2.2.1
    have hk4 : A.1 (w + 3) (A.1 (w + 10) i) ≤ 4 := by have := hO.1; omega
    refine xp_iload_n rfl rfl ?_
    refine xp_aload_n rfl rfl ?_
    refine xp_gfi rfl rfl (by decide) (by decide) (by first | assumption | exact hL.t rfl) ?_
    rw [rk _ (w + 2) 7 (by omega) (by omega)]
    refine xp_icge 110 rfl (by decide) (by omega) (by omega) (fun h18 => ?_) (fun h18 => ?_)
    · exfalso; omega
    · skip
      refine xp_aload_n rfl rfl ?_
      refine xp_gfa rfl rfl (by decide) (by decide) (by first | assumption | exact hL.t rfl) (by first | assumption | exact hL.r rfl | exact hL.2.2.2.2.2) ?_
      refine xp_iload_n rfl rfl ?_
      refine xp_iald rfl (by first | assumption | exact hL.t rfl) (by omega) (by omega) ?_
      rw [rk _ (w + 10) i (by omega) (by omega)]
      refine xp_istore_n rfl (by decide) ?_
      refine xp_aload_n rfl rfl ?_
      refine xp_gfa rfl rfl (by decide) (by decide) (by first | assumption | exact hL.t rfl) (by first | assumption | exact hL.r rfl | exact hL.2.2.2.2.2) ?_
      refine xp_aload_n rfl rfl ?_
      refine xp_gfa rfl rfl (by decide) (by decide) (by first | assumption | exact hL.t rfl) (by first | assumption | exact hL.r rfl | exact hL.2.2.2.2.2) ?_
      refine xp_iload_n rfl rfl ?_
      refine xp_iald rfl (by first | assumption | exact hL.t rfl) (by omega) (by omega) ?_
      rw [rk _ (w + 3) _ (by omega) (by omega)]
      refine xp_iv rfl rfl (Nat.le_of_ble_eq_true rfl) (by decide) (by decide) (by decide) (Nat.le_of_ble_eq_true rfl) rfl (xrcv1 (by decide) (by first | assumption | exact hL.t rfl)) (c67w hL (by (try simp only [List.length_append, List.length_cons, List.length_nil]); omega)) rfl ?_
      refine xp_aload_n rfl rfl ?_
      refine xp_gfa rfl rfl (by decide) (by decide) (by first | assumption | exact hL.t rfl) (by first | assumption | exact hL.r rfl | exact hL.2.2.2.2.2) ?_
      refine xp_iload_n rfl rfl ?_
      refine xp_iald rfl (by first | assumption | exact hL.t rfl) (by omega) (by omega) ?_
      refine xp_iconst (n := 4) rfl (by decide) ?_
      rw [rk _ (w + 3) _ (by omega) (by omega)]
      refine xp_icne 77 rfl (by decide) (by omega) (by omega) (fun h48 => ?_) (fun h48 => ?_)
      · skip
        have hib : (if A.1 (w + 3) (A.1 (w + 10) i) = 4 then [A.1 (w + 4) (A.1 (w + 10) i) % 256, A.1 (w + 5) (A.1 (w + 10) i) % 256] else []) = ([] : List Nat) := if_neg h48
        refine xp_aload_n rfl rfl ?_
        refine xp_iload_n rfl rfl ?_
        refine xp_iv rfl rfl (Nat.le_of_ble_eq_true rfl) (by decide) (by decide) (by decide) (Nat.le_of_ble_eq_true rfl) rfl (xrcv1 (by decide) (by first | assumption | exact hL.t rfl)) (c60) rfl ?_
        refine xp_istore rfl (by decide) ?_
        refine xp_aload_n rfl rfl ?_
        refine xp_aload_n rfl rfl ?_
        refine xp_gfa rfl rfl (by decide) (by decide) (by first | assumption | exact hL.t rfl) (by first | assumption | exact hL.r rfl | exact hL.2.2.2.2.2) ?_
        refine xp_iload rfl rfl ?_
        refine xp_iload rfl rfl ?_
        refine xp_aload_n rfl rfl ?_
        refine xp_gfa rfl rfl (by decide) (by decide) (by first | assumption | exact hL.t rfl) (by first | assumption | exact hL.r rfl | exact hL.2.2.2.2.2) ?_
        refine xp_iload_n rfl rfl ?_
        refine xp_iald rfl (by first | assumption | exact hL.t rfl) (by omega) (by omega) ?_
        rw [rk _ (w + 5) _ (by omega) (by omega)]
        refine xp_iadd rfl ?_
        refine xp_aload_n rfl rfl ?_
        refine xp_iv rfl rfl (Nat.le_of_ble_eq_true rfl) (by decide) (by decide) (by decide) (Nat.le_of_ble_eq_true rfl) rfl (xrcv1 (by decide) (by first | assumption | exact hL.t rfl)) (c108 hL hW hCC (by omega) (by omega) hwa (by omega) (fun c q1 q2 => by
      have := hO.2.2.2 g2 (c - A.1 (w + 10) i * 3) (by omega)
      rw [show A.1 (w + 10) i * 3 + (c - A.1 (w + 10) i * 3) = c by omega] at this
      exact this.n) (by (try simp only [List.length_append, List.length_cons, List.length_nil]); omega)) rfl ?_
        refine xp_iinc rfl rfl (by decide) (nI_inc _) ?_
        refine xp_goto 13 rfl (by decide) ?_
        refine xp_weak [(0, .ref 101), (1, .ref (w + 2)), (2, .int (nI (i + 1)))] (xle_cons rfl (xle_cons rfl (xle_cons rfl (xle_nil _)))) (by simp [xnd]) ?_
        refine ih (i + 1) _ _ (by omega) (by (try simp only [List.length_append, List.length_cons, List.length_nil]); omega) ?_
        rw [hl2]
        show l ++ (oB (A.1 (w + 9)) A w (A.1 (w + 10) i) ++ osB (A.1 (w + 9)) A w (i + 1) m) = _
        unfold oB
        rw [hib]
        simp only [List.append_assoc, List.cons_append, List.nil_append]
      · skip
        have hib : (if A.1 (w + 3) (A.1 (w + 10) i) = 4 then [A.1 (w + 4) (A.1 (w + 10) i) % 256, A.1 (w + 5) (A.1 (w + 10) i) % 256] else []) = [A.1 (w + 4) (A.1 (w + 10) i) % 256, A.1 (w + 5) (A.1 (w + 10) i) % 256] := if_pos h48
        refine xp_aload_n rfl rfl ?_
        refine xp_gfa rfl rfl (by decide) (by decide) (by first | assumption | exact hL.t rfl) (by first | assumption | exact hL.r rfl | exact hL.2.2.2.2.2) ?_
        refine xp_aload_n rfl rfl ?_
        refine xp_gfa rfl rfl (by decide) (by decide) (by first | assumption | exact hL.t rfl) (by first | assumption | exact hL.r rfl | exact hL.2.2.2.2.2) ?_
        refine xp_iload_n rfl rfl ?_
        refine xp_iald rfl (by first | assumption | exact hL.t rfl) (by omega) (by omega) ?_
        rw [rk _ (w + 4) _ (by omega) (by omega)]
        refine xp_iv rfl rfl (Nat.le_of_ble_eq_true rfl) (by decide) (by decide) (by decide) (Nat.le_of_ble_eq_true rfl) rfl (xrcv1 (by decide) (by first | assumption | exact hL.t rfl)) (c67w hL (by (try simp only [List.length_append, List.length_cons, List.length_nil]); omega)) rfl ?_
        refine xp_aload_n rfl rfl ?_
        refine xp_gfa rfl rfl (by decide) (by decide) (by first | assumption | exact hL.t rfl) (by first | assumption | exact hL.r rfl | exact hL.2.2.2.2.2) ?_
        refine xp_aload_n rfl rfl ?_
        refine xp_gfa rfl rfl (by decide) (by decide) (by first | assumption | exact hL.t rfl) (by first | assumption | exact hL.r rfl | exact hL.2.2.2.2.2) ?_
        refine xp_iload_n rfl rfl ?_
        refine xp_iald rfl (by first | assumption | exact hL.t rfl) (by omega) (by omega) ?_
        rw [rk _ (w + 5) _ (by omega) (by omega)]
        refine xp_iv rfl rfl (Nat.le_of_ble_eq_true rfl) (by decide) (by decide) (by decide) (Nat.le_of_ble_eq_true rfl) rfl (xrcv1 (by decide) (by first | assumption | exact hL.t rfl)) (c67w hL (by (try simp only [List.length_append, List.length_cons, List.length_nil]); omega)) rfl ?_
        refine xp_aload_n rfl rfl ?_
        refine xp_iload_n rfl rfl ?_
        refine xp_iv rfl rfl (Nat.le_of_ble_eq_true rfl) (by decide) (by decide) (by decide) (Nat.le_of_ble_eq_true rfl) rfl (xrcv1 (by decide) (by first | assumption | exact hL.t rfl)) (c60) rfl ?_
        refine xp_istore rfl (by decide) ?_
        refine xp_aload_n rfl rfl ?_
        refine xp_aload_n rfl rfl ?_
        refine xp_gfa rfl rfl (by decide) (by decide) (by first | assumption | exact hL.t rfl) (by first | assumption | exact hL.r rfl | exact hL.2.2.2.2.2) ?_
        refine xp_iload rfl rfl ?_
        refine xp_iload rfl rfl ?_
        refine xp_aload_n rfl rfl ?_
        refine xp_gfa rfl rfl (by decide) (by decide) (by first | assumption | exact hL.t rfl) (by first | assumption | exact hL.r rfl | exact hL.2.2.2.2.2) ?_
        refine xp_iload_n rfl rfl ?_
        refine xp_iald rfl (by first | assumption | exact hL.t rfl) (by omega) (by omega) ?_
        rw [rk _ (w + 5) _ (by omega) (by omega)]
        refine xp_iadd rfl ?_
        refine xp_aload_n rfl rfl ?_
        refine xp_iv rfl rfl (Nat.le_of_ble_eq_true rfl) (by decide) (by decide) (by decide) (Nat.le_of_ble_eq_true rfl) rfl (xrcv1 (by decide) (by first | assumption | exact hL.t rfl)) (c108 hL hW hCC (by omega) (by omega) hwa (by omega) (fun c q1 q2 => by
      have := hO.2.2.2 g2 (c - A.1 (w + 10) i * 3) (by omega)
      rw [show A.1 (w + 10) i * 3 + (c - A.1 (w + 10) i * 3) = c by omega] at this
      exact this.n) (by (try simp only [List.length_append, List.length_cons, List.length_nil]); omega)) rfl ?_
        refine xp_iinc rfl rfl (by decide) (nI_inc _) ?_
        refine xp_goto 13 rfl (by decide) ?_
        refine xp_weak [(0, .ref 101), (1, .ref (w + 2)), (2, .int (nI (i + 1)))] (xle_cons rfl (xle_cons rfl (xle_cons rfl (xle_nil _)))) (by simp [xnd]) ?_
        refine ih (i + 1) _ _ (by omega) (by (try simp only [List.length_append, List.length_cons, List.length_nil]); omega) ?_
        rw [hl2]
        show l ++ (oB (A.1 (w + 9)) A w (A.1 (w + 10) i) ++ osB (A.1 (w + 9)) A w (i + 1) m) = _
        unfold oB
        rw [hib]
        simp only [List.append_assoc, List.cons_append, List.nil_append]
theorem c107 {z : Nat} {T : Nat → Option xT} {R : Nat → Nat → Option Nat} {A : xQ} {w : Nat} {l : List Nat} (hL : xLay T R w) (hW : xW0 T R w) (hwa : w = 12 ∨ w = 103) (hk : ∀ o, o < 24 → OOk w A o) (hfc : A.1 (w + 2) 7 ≤ 24) (hfo : ∀ q, q < A.1 (w + 2) 7 → A.1 (w + 10) q < 24 ∧ A.1 (w + 3) (A.1 (w + 10) q) ≠ 0) (hl : l.length + 1 + 30 * A.1 (w + 2) 7 ≤ 2400) : xF 107 [.ref 101, .ref (w + 2)] (xm z T R (wA A l)) (.inr none, xm z T R (wA A (l ++ (A.1 (w + 2) 7 % 256 :: osB (A.1 (w + 9)) A w 0 (A.1 (w + 2) 7))))) := by
  have rk := wA_r (A := A)
  obtain ⟨h1, h2, h3, h4, h5, h6, h7, h8, h9, h10, h11, h12, hCC⟩ := id hW.2.2.2.2.1
  have hfin : l ++ (A.1 (w + 2) 7 % 256 :: osB (A.1 (w + 9)) A w 0 (A.1 (w + 2) 7)) = (l ++ [A.1 (w + 2) 7 % 256]) ++ osB (A.1 (w + 9)) A w 0 (A.1 (w + 2) 7) := by rw [List.append_assoc]; rfl
  rw [hfin]
  refine xF_eq (xF_p (Nat.le_of_ble_eq_true rfl) ?_)
  refine xp_aload_n rfl rfl ?_
  refine xp_gfa rfl rfl (by decide) (by decide) (by first | assumption | exact hL.t rfl) (by first | assumption | exact hL.r rfl | exact hL.2.2.2.2.2) ?_
  refine xp_aload_n rfl rfl ?_
  refine xp_gfi rfl rfl (by decide) (by decide) (by first | assumption | exact hL.t rfl) ?_
  rw [rk _ (w + 2) 7 (by omega) (by omega)]
  refine xp_iv rfl rfl (Nat.le_of_ble_eq_true rfl) (by decide) (by decide) (by decide) (Nat.le_of_ble_eq_true rfl) rfl (xrcv1 (by decide) (by first | assumption | exact hL.t rfl)) (c67w hL (by (try simp only [List.length_append, List.length_cons, List.length_nil]); omega)) rfl ?_
  refine xp_iconst (n := 0) rfl (by decide) ?_
  refine xp_istore_n rfl (by decide) ?_
  refine xp_weak [(0, .ref 101), (1, .ref (w + 2)), (2, .int (nI 0))] (xle_cons rfl (xle_cons rfl (xle_cons rfl (xle_nil _)))) (by simp [xnd]) ?_
  exact l107 hL hW hwa hk hfc hfo (A.1 (w + 2) 7) 0 _ _ (by omega) (by (try simp only [List.length_append, List.length_cons, List.length_nil]); omega) rfl
def sm (f : Nat → Nat) : Nat → Nat → Nat
  | _, 0 => 0
  | i, m + 1 => f i + sm f (i + 1) m
theorem sm_congr {f g : Nat → Nat} : ∀ m i, (∀ j, i ≤ j → j < i + m → f j = g j) → sm f i m = sm g i m := by
  intro m
  induction m with
  | zero => intro i _; rfl
  | succ m ih =>
    intro i h
    show f i + sm f (i + 1) m = g i + sm g (i + 1) m
    rw [h i (by omega) (by omega), ih (i + 1) (fun j q1 q2 => h j (by omega) (by omega))]
theorem l69 {z : Nat} {T : Nat → Option xT} {R : Nat → Nat → Option Nat} {A : xQ} {w n : Nat} (hL : xLay T R w) (hn : n ≤ 2400) : ∀ (m : Nat) (i ac : Nat), i + m = n → xP 69 4 [(0, .ref 99), (1, .int (nI n)), (2, .int (nI ac)), (3, .int (nI i))] [] 0 0 (xm z T R (A)) (fun r => r = (.inr (some (.int (nI ((ac + sm (A.1 100) i m) % 256)))), xm z T R A)) := by
  intro m
  induction m with
  | zero =>
    intro i ac hi
    refine xp_iload_n rfl rfl ?_
    refine xp_iload_n rfl rfl ?_
    refine xp_icge 24 rfl (by decide) (by omega) (by omega) (fun h6 => ?_) (fun h6 => ?_)
    · skip
      refine xp_iload_n rfl rfl ?_
      refine xp_sipush (n := 255) rfl (by decide) ?_
      refine xp_iand rfl ?_
      rw [nI_and255]
      refine xp_ireturn rfl (by decide) (by decide) (by decide) ?_
      rfl
    · exfalso; omega
  | succ m ih =>
    intro i ac hi
    refine xp_iload_n rfl rfl ?_
    refine xp_iload_n rfl rfl ?_
    refine xp_icge 24 rfl (by decide) (by omega) (by omega) (fun h6 => ?_) (fun h6 => ?_)
    · exfalso; omega
    · skip
      refine xp_iload_n rfl rfl ?_
      refine xp_aload_n rfl rfl ?_
      refine xp_gfa rfl rfl (by decide) (by decide) (by first | assumption | exact hL.t rfl) (by first | assumption | exact hL.r rfl | exact hL.2.2.2.2.2) ?_
      refine xp_iload_n rfl rfl ?_
      refine xp_iald rfl (by first | assumption | exact hL.t rfl) (by omega) (by omega) ?_
      refine xp_iadd rfl ?_
      refine xp_istore_n rfl (by decide) ?_
      refine xp_iinc rfl rfl (by decide) (nI_inc _) ?_
      refine xp_goto 4 rfl (by decide) ?_
      refine xp_weak [(0, .ref 99), (1, .int (nI n)), (2, .int (nI (ac + A.1 100 i))), (3, .int (nI (i + 1)))] (xle_cons rfl (xle_cons rfl (xle_cons rfl (xle_cons rfl (xle_nil _))))) (by simp [xnd]) ?_
      have h := ih (i + 1) (ac + A.1 100 i) (by omega)
      rw [Nat.add_assoc] at h
      exact h
theorem c69 {z : Nat} {T : Nat → Option xT} {R : Nat → Nat → Option Nat} {A : xQ} {w n : Nat} (hL : xLay T R w) (hn : n ≤ 2400) : xF 69 [.ref 99, .int (nI n)] (xm z T R A) (.inr (some (.int (nI (sm (A.1 100) 0 n % 256)))), xm z T R A) := by
  have hf := l69 (z := z) (A := A) hL hn n 0 0 (by omega)
  rw [Nat.zero_add] at hf
  refine xF_eq (xF_p (Nat.le_of_ble_eq_true rfl) ?_)
  refine xp_iconst (n := 0) rfl (by decide) ?_
  refine xp_istore_n rfl (by decide) ?_
  refine xp_iconst (n := 0) rfl (by decide) ?_
  refine xp_istore_n rfl (by decide) ?_
  refine xp_weak [(0, .ref 99), (1, .int (nI n)), (2, .int (nI 0)), (3, .int (nI 0))] (xle_cons rfl (xle_cons rfl (xle_cons rfl (xle_cons rfl (xle_nil _))))) (by simp [xnd]) ?_
  exact hf
def cI (X Y Z : Nat → Nat) : Nat → Nat → Nat → Nat
  | 0, _, ac => ac
  | m + 1, i, ac => cI X Y Z m (i + 1) (31 * ac + X i + Y i + Z i)
def cF (N X Y Z : Nat → Nat) : Nat → Nat → Nat → Nat
  | 0, _, ac => ac
  | m + 1, f, ac => cF N X Y Z m (f + 1) (cI X Y Z (N f) (30 * f) ac)
theorem cI_congr {X Y Z X2 Y2 Z2 : Nat → Nat} : ∀ m i ac, (∀ j, i ≤ j → j < i + m → X j = X2 j ∧ Y j = Y2 j ∧ Z j = Z2 j) → cI X Y Z m i ac = cI X2 Y2 Z2 m i ac := by
  intro m
  induction m with
  | zero => intro i ac _; rfl
  | succ m ih =>
    intro i ac h
    obtain ⟨h1, h2, h3⟩ := h i (by omega) (by omega)
    show cI X Y Z m (i + 1) (31 * ac + X i + Y i + Z i) = cI X2 Y2 Z2 m (i + 1) (31 * ac + X2 i + Y2 i + Z2 i)
    rw [h1, h2, h3, ih (i + 1) _ (fun j q1 q2 => h j (by omega) (by omega))]
theorem cF_congr {N X Y Z N2 X2 Y2 Z2 : Nat → Nat} : ∀ m f ac, (∀ g, f ≤ g → g < f + m → N g = N2 g ∧ ∀ j, j < N2 g → X (30 * g + j) = X2 (30 * g + j) ∧ Y (30 * g + j) = Y2 (30 * g + j) ∧ Z (30 * g + j) = Z2 (30 * g + j)) → cF N X Y Z m f ac = cF N2 X2 Y2 Z2 m f ac := by
  intro m
  induction m with
  | zero => intro f ac _; rfl
  | succ m ih =>
    intro f ac h
    obtain ⟨h1, h2⟩ := h f (by omega) (by omega)
    show cF N X Y Z m (f + 1) (cI X Y Z (N f) (30 * f) ac) = cF N2 X2 Y2 Z2 m (f + 1) (cI X2 Y2 Z2 (N2 f) (30 * f) ac)
    rw [h1, cI_congr (X2 := X2) (Y2 := Y2) (Z2 := Z2) _ _ ac (fun j q1 q2 => by
      have := h2 (j - 30 * f) (by omega)
      rw [show 30 * f + (j - 30 * f) = j by omega] at this
      exact this), ih (f + 1) _ (fun g q1 q2 => h g (by omega) (by omega))]
theorem l77a {z : Nat} {T : Nat → Option xT} {R : Nat → Nat → Option Nat} {A : xQ} {w f : Nat} {Q : xR → Prop} (hL : xLay T R w) (hf : f < 6) (hn : A.1 3 f ≤ 30) : ∀ (m i ac : Nat), i + m = f * 30 + A.1 3 f → xP 77 66 [(0, .ref 1), (1, .int (nI (cI (A.1 4) (A.1 5) (A.1 6) m i ac))), (2, .int (nI f))] [] 0 0 (xm z T R A) Q → xP 77 18 [(0, .ref 1), (1, .int (nI ac)), (2, .int (nI f)), (3, .int (nI (f * 30))), (4, .int (nI i))] [] 0 0 (xm z T R A) Q := by
  intro m
  induction m with
  | zero =>
    intro i ac hi hQ
    refine xp_iload rfl rfl ?_
    refine xp_iload_n rfl rfl ?_
    refine xp_aload_n rfl rfl ?_
    refine xp_gfa rfl rfl (by decide) (by decide) (by first | assumption | exact hL.t rfl) (by first | assumption | exact hL.r rfl | exact hL.2.2.2.2.2) ?_
    refine xp_iload_n rfl rfl ?_
    refine xp_iald rfl (by first | assumption | exact hL.t rfl) (by omega) (by omega) ?_
    refine xp_iadd rfl ?_
    refine xp_icge 66 rfl (by decide) (by omega) (by omega) (fun h28 => ?_) (fun h28 => ?_)
    · skip
      refine xp_weak [(0, .ref 1), (1, .int (nI ac)), (2, .int (nI f))] (xle_cons rfl (xle_cons rfl (xle_cons rfl (xle_nil _)))) (by simp [xnd]) ?_
      exact hQ
    · exfalso; omega
  | succ m ih =>
    intro i ac hi hQ
    refine xp_iload rfl rfl ?_
    refine xp_iload_n rfl rfl ?_
    refine xp_aload_n rfl rfl ?_
    refine xp_gfa rfl rfl (by decide) (by decide) (by first | assumption | exact hL.t rfl) (by first | assumption | exact hL.r rfl | exact hL.2.2.2.2.2) ?_
    refine xp_iload_n rfl rfl ?_
    refine xp_iald rfl (by first | assumption | exact hL.t rfl) (by omega) (by omega) ?_
    refine xp_iadd rfl ?_
    refine xp_icge 66 rfl (by decide) (by omega) (by omega) (fun h28 => ?_) (fun h28 => ?_)
    · exfalso; omega
    · skip
      refine xp_bipush (n := 31) rfl (by decide) ?_
      refine xp_iload_n rfl rfl ?_
      refine xp_imul rfl ?_
      refine xp_aload_n rfl rfl ?_
      refine xp_gfa rfl rfl (by decide) (by decide) (by first | assumption | exact hL.t rfl) (by first | assumption | exact hL.r rfl | exact hL.2.2.2.2.2) ?_
      refine xp_iload rfl rfl ?_
      refine xp_iald rfl (by first | assumption | exact hL.t rfl) (by omega) (by omega) ?_
      refine xp_iadd rfl ?_
      refine xp_aload_n rfl rfl ?_
      refine xp_gfa rfl rfl (by decide) (by decide) (by first | assumption | exact hL.t rfl) (by first | assumption | exact hL.r rfl | exact hL.2.2.2.2.2) ?_
      refine xp_iload rfl rfl ?_
      refine xp_iald rfl (by first | assumption | exact hL.t rfl) (by omega) (by omega) ?_
      refine xp_iadd rfl ?_
      refine xp_aload_n rfl rfl ?_
      refine xp_gfa rfl rfl (by decide) (by decide) (by first | assumption | exact hL.t rfl) (by first | assumption | exact hL.r rfl | exact hL.2.2.2.2.2) ?_
      refine xp_iload rfl rfl ?_
      refine xp_iald rfl (by first | assumption | exact hL.t rfl) (by omega) (by omega) ?_
      refine xp_iadd rfl ?_
      refine xp_istore_n rfl (by decide) ?_
      refine xp_iinc rfl rfl (by decide) (nI_inc _) ?_
      refine xp_goto 18 rfl (by decide) ?_
      refine xp_weak [(0, .ref 1), (1, .int (nI (31 * ac + A.1 4 i + A.1 5 i + A.1 6 i))), (2, .int (nI f)), (3, .int (nI (f * 30))), (4, .int (nI (i + 1)))] (xle_cons rfl (xle_cons rfl (xle_cons rfl (xle_cons rfl (xle_cons rfl (xle_nil _)))))) (by simp [xnd]) ?_
      exact ih (i + 1) _ (by omega) hQ
theorem l77 {z : Nat} {T : Nat → Option xT} {R : Nat → Nat → Option Nat} {A : xQ} {w : Nat} (hL : xLay T R w) (hn : ∀ f, f < 6 → A.1 3 f ≤ 30) : ∀ (m : Nat) (f ac : Nat), f + m = 6 → xP 77 4 [(0, .ref 1), (1, .int (nI ac)), (2, .int (nI f))] [] 0 0 (xm z T R (A)) (fun r => r = (.inr (some (.int (nI (cF (A.1 3) (A.1 4) (A.1 5) (A.1 6) m f ac % 256)))), xm z T R A)) := by
  intro m
  induction m with
  | zero =>
    intro f ac hi
    refine xp_iload_n rfl rfl ?_
    refine xp_bipush (n := 6) rfl (by decide) ?_
    refine xp_icge 72 rfl (by decide) (by omega) (by omega) (fun h7 => ?_) (fun h7 => ?_)
    · skip
      refine xp_iload_n rfl rfl ?_
      refine xp_sipush (n := 255) rfl (by decide) ?_
      refine xp_iand rfl ?_
      rw [nI_and255]
      refine xp_ireturn rfl (by decide) (by decide) (by decide) ?_
      rfl
    · exfalso; omega
  | succ m ih =>
    intro f ac hi
    refine xp_iload_n rfl rfl ?_
    refine xp_bipush (n := 6) rfl (by decide) ?_
    refine xp_icge 72 rfl (by decide) (by omega) (by omega) (fun h7 => ?_) (fun h7 => ?_)
    · exfalso; omega
    · skip
      refine xp_iload_n rfl rfl ?_
      refine xp_bipush (n := 30) rfl (by decide) ?_
      refine xp_imul rfl ?_
      refine xp_istore_n rfl (by decide) ?_
      refine xp_iload_n rfl rfl ?_
      refine xp_istore rfl (by decide) ?_
      refine xp_weak [(0, .ref 1), (1, .int (nI ac)), (2, .int (nI f)), (3, .int (nI (f * 30))), (4, .int (nI (f * 30)))] (xle_cons rfl (xle_cons rfl (xle_cons rfl (xle_cons rfl (xle_cons rfl (xle_nil _)))))) (by simp [xnd]) ?_
      refine l77a hL (by omega) (hn f (by omega)) (A.1 3 f) (f * 30) ac (by omega) ?_
      refine xp_iinc rfl rfl (by decide) (nI_inc _) ?_
      refine xp_goto 4 rfl (by decide) ?_
      refine xp_weak [(0, .ref 1), (1, .int (nI (cI (A.1 4) (A.1 5) (A.1 6) (A.1 3 f) (f * 30) ac))), (2, .int (nI (f + 1)))] (xle_cons rfl (xle_cons rfl (xle_cons rfl (xle_nil _)))) (by simp [xnd]) ?_
      have h := ih (f + 1) (cI (A.1 4) (A.1 5) (A.1 6) (A.1 3 f) (30 * f) ac) (by omega)
      rw [Nat.mul_comm f 30]
      exact h
theorem c77 {z : Nat} {T : Nat → Option xT} {R : Nat → Nat → Option Nat} {A : xQ} {w : Nat} (hL : xLay T R w) (hn : ∀ f, f < 6 → A.1 3 f ≤ 30) : xF 77 [.ref 1] (xm z T R A) (.inr (some (.int (nI (cF (A.1 3) (A.1 4) (A.1 5) (A.1 6) 6 0 0 % 256)))), xm z T R A) := by
  refine xF_eq (xF_p (Nat.le_of_ble_eq_true rfl) ?_)
  refine xp_iconst (n := 0) rfl (by decide) ?_
  refine xp_istore_n rfl (by decide) ?_
  refine xp_iconst (n := 0) rfl (by decide) ?_
  refine xp_istore_n rfl (by decide) ?_
  refine xp_weak [(0, .ref 1), (1, .int (nI 0)), (2, .int (nI 0))] (xle_cons rfl (xle_cons rfl (xle_cons rfl (xle_nil _)))) (by simp [xnd]) ?_
  exact l77 hL hn 6 0 0 (by omega)
