-- THE MEMORY BY NUMBERS: ints as naturals, so that places are places
abbrev xQ : Type := (Nat → Nat → Nat) × (Nat → Nat → Int64)
def xm (z : Nat) (T : Nat → Option xT) (R : Nat → Nat → Option Nat) (A : xQ) : xS := (z, T, fun a k => nI (A.1 a k), A.2, R)
def xsI (A : xQ) (a k v : Nat) : xQ := (x2 A.1 a k v, A.2)
def xsJ (A : xQ) (a k : Nat) (v : Int64) : xQ := (A.1, x2 A.2 a k v)
theorem nI_all (x : Int32) : x = nI x.toUInt32.toNat := by
  unfold nI
  apply Int32.toBitVec.inj
  apply BitVec.eq_of_toNat_eq
  simp [Int32.toBitVec_ofNat]
theorem nI_lt32 (x : Int32) : x.toUInt32.toNat < 2 ^ 32 := UInt32.toNat_lt _
theorem nI_ex (x : Int32) : ∃ n, n < 2 ^ 32 ∧ x = nI n := ⟨_, nI_lt32 x, nI_all x⟩
theorem xm_any (S : xS) : S = xm (xz S) (xt S) (xr S) (fun a k => (xi S a k).toUInt32.toNat, xj S) := by
  obtain ⟨z, T, i, j, R⟩ := S
  simp only [xm, xz, xt, xr, xi, xj, ← nI_all]
theorem xm_i (z : Nat) (T : Nat → Option xT) (R : Nat → Nat → Option Nat) (A : xQ) (a k v : Nat) : xsi (xm z T R A) a k (nI v) = xm z T R (xsI A a k v) := by
  simp only [xsi, xm, xsI, xz, xt, xi, xj, xr]
  congr 3
  funext b j
  unfold x2
  split <;> (try split) <;> rfl
theorem xm_j (z : Nat) (T : Nat → Option xT) (R : Nat → Nat → Option Nat) (A : xQ) (a k : Nat) (v : Int64) : xsj (xm z T R A) a k v = xm z T R (xsJ A a k v) := rfl
theorem nI_mul (a b : Nat) : nI a * nI b = nI (a * b) := (Int32.ofNat_mul a b).symm
theorem nI_sub {a b : Nat} (h : b ≤ a) : nI a - nI b = nI (a - b) := by
  have h1 : nI a = nI (a - b) + nI b := by rw [nI_add]; congr 1; omega
  rw [h1, Int32.add_sub_cancel]
theorem nI_u (n : Nat) : (nI n).toUInt32.toNat = n % 2 ^ 32 := by
  unfold nI
  show (Int32.ofNat n).toBitVec.toNat = _
  rw [Int32.toBitVec_ofNat']
  simp
theorem nI_eq32 {a b : Nat} (ha : a < 2 ^ 32) (hb : b < 2 ^ 32) : nI a = nI b ↔ a = b := by
  constructor
  · intro h
    have := congrArg (fun x : Int32 => x.toUInt32.toNat) h
    simp only [nI_u] at this
    omega
  · intro h; rw [h]
theorem nI_eq0 {a : Nat} (ha : a < 2 ^ 32) : nI a = 0 ↔ a = 0 := by rw [← nI_0]; exact nI_eq32 ha (by decide)
theorem nI_neg {a : Nat} (ha : a < 2 ^ 32) : nI a < 0 ↔ 2 ^ 31 ≤ a := by
  constructor
  · intro h
    rcases Nat.lt_or_ge a (2 ^ 31) with q | q
    · exact absurd h (nI_pos q)
    · exact q
  · intro h
    have e1 : (nI a).toInt = (a : Int) - 2 ^ 32 := by
      unfold nI
      rw [Int32.toInt_ofNat']
      have e0 : ((Int32.size : Nat) : Int) = 4294967296 := rfl
      simp only [Int.bmod, e0]
      omega
    rw [Int32.lt_iff_toInt_lt, e1]
    show _ < (0 : Int)
    omega
theorem nI_mod (a : Nat) : nI (a % 2 ^ 32) = nI a := by
  have h1 := nI_all (nI a)
  rw [nI_u] at h1
  exact h1.symm
theorem nI_and255 (a : Nat) : nI a &&& nI 255 = nI (a % 256) := by
  apply Int32.toBitVec.inj
  apply BitVec.eq_of_toNat_eq
  unfold nI
  rw [Int32.toBitVec_and, Int32.toBitVec_ofNat', Int32.toBitVec_ofNat', Int32.toBitVec_ofNat', BitVec.toNat_and]
  simp only [BitVec.toNat_ofNat]
  rw [show (255 % 2 ^ 32 : Nat) = 2 ^ 8 - 1 from rfl, Nat.and_two_pow_sub_one_eq_mod]
  omega
/-- from this point it comes to something with P -/
def xP (y pc : Nat) (lv : xL) (st : List Value) (c q : Nat) (S : xS) (P : xR → Prop) : Prop := ∃ r, xE y pc lv st c q S r ∧ P r
theorem xE_weak {y pc : Nat} {lv lv2 : xL} {st : List Value} {c q : Nat} {S : xS} {r : xR} (hle : xle lv lv2) (hnd : xnd lv) (h : xE y pc lv st c q S r) : xE y pc lv2 st c q S r := by
  obtain ⟨n, hn⟩ := h
  exact ⟨n, xev_weak n y pc lv lv2 st c q S r hle hnd hn⟩
section PW
variable {y pc : Nat} {lv : xL} {st : List Value} {c q : Nat} {S : xS} {P : xR → Prop} {z : Nat} {T : Nat → Option xT} {R : Nat → Nat → Option Nat} {A : xQ}
theorem xF_p {as : List Value} (hl : (lg_sl as).length ≤ xc_nl y) (h : xP y 0 (lv_args 0 as) [] 0 0 S P) : ∃ r, xF y as S r ∧ P r := by
  obtain ⟨r, h1, h2⟩ := h
  exact ⟨r, xF_of hl h1, h2⟩
theorem xp_weak {lv2 : xL} (lv : xL) (hle : xle lv lv2) (hnd : xnd lv) (h : xP y pc lv st c q S P) : xP y pc lv2 st c q S P := by
  obtain ⟨r, h1, h2⟩ := h
  exact ⟨r, xE_weak hle hnd h1, h2⟩

theorem xp_iconst {k : Int} {n : Nat} (hc : xc_code y pc = some (.iconst k)) (hv : Int32.ofInt k = nI n) (h : xP y (pc + 1) lv (.int (nI n) :: st) c q (S) P) : xP y pc lv (st) c q (S) P := by
  obtain ⟨r, h1, h2⟩ := h
  exact ⟨r, xe_iconst hc hv h1, h2⟩
theorem xp_bipush {k : Int} {n : Nat} (hc : xc_code y pc = some (.bipush k)) (hv : (Int8.ofInt k).toInt32 = nI n) (h : xP y (pc + 2) lv (.int (nI n) :: st) c q (S) P) : xP y pc lv (st) c q (S) P := by
  obtain ⟨r, h1, h2⟩ := h
  exact ⟨r, xe_bipush hc hv h1, h2⟩
theorem xp_sipush {k : Int} {n : Nat} (hc : xc_code y pc = some (.sipush k)) (hv : (Int16.ofInt k).toInt32 = nI n) (h : xP y (pc + 3) lv (.int (nI n) :: st) c q (S) P) : xP y pc lv (st) c q (S) P := by
  obtain ⟨r, h1, h2⟩ := h
  exact ⟨r, xe_sipush hc hv h1, h2⟩
theorem xp_lconst {k : Fin 2} {v : Int64} (hc : xc_code y pc = some (.lconst k)) (hv : Int64.ofNat (k : Nat) = v) (h : xP y (pc + 1) lv (.long v :: st) c q (S) P) : xP y pc lv (st) c q (S) P := by
  obtain ⟨r, h1, h2⟩ := h
  exact ⟨r, xe_lconst hc hv h1, h2⟩
theorem xp_ldc2 {k : Nat} {v : Int64} (hc : xc_code y pc = some (.ldc2_w k)) (hv : xc_long (xc_own y) k = some v) (h : xP y (pc + 3) lv (.long v :: st) c q (S) P) : xP y pc lv (st) c q (S) P := by
  obtain ⟨r, h1, h2⟩ := h
  exact ⟨r, xe_ldc2 hc hv h1, h2⟩
theorem xp_iload_n {k : Fin 4} {x : Int32} (hc : xc_code y pc = some (.iload_n k)) (hl : xld lv k = some (.int x)) (h : xP y (pc + 1) lv (.int x :: st) c q (S) P) : xP y pc lv (st) c q (S) P := by
  obtain ⟨r, h1, h2⟩ := h
  exact ⟨r, xe_iload_n hc hl h1, h2⟩
theorem xp_iload {k : Nat} {x : Int32} (hc : xc_code y pc = some (.iload k)) (hl : xld lv k = some (.int x)) (h : xP y (pc + 2) lv (.int x :: st) c q (S) P) : xP y pc lv (st) c q (S) P := by
  obtain ⟨r, h1, h2⟩ := h
  exact ⟨r, xe_iload hc hl h1, h2⟩
theorem xp_istore_n {k : Fin 4} {x : Int32} (hc : xc_code y pc = some (.istore_n k)) (hk : (k : Nat) < xc_nl y) (h : xP y (pc + 1) (xst1 lv k (.int x)) (st) c q (S) P) : xP y pc lv (.int x :: st) c q (S) P := by
  obtain ⟨r, h1, h2⟩ := h
  exact ⟨r, xe_istore_n hc hk rfl h1, h2⟩
theorem xp_istore {k : Nat} {x : Int32} (hc : xc_code y pc = some (.istore k)) (hk : k < xc_nl y) (h : xP y (pc + 2) (xst1 lv k (.int x)) (st) c q (S) P) : xP y pc lv (.int x :: st) c q (S) P := by
  obtain ⟨r, h1, h2⟩ := h
  exact ⟨r, xe_istore hc hk rfl h1, h2⟩
theorem xp_lload_n {k : Fin 4} {x : Int64} (hc : xc_code y pc = some (.lload_n k)) (hl : xld lv k = some (.long x)) (h : xP y (pc + 1) lv (.long x :: st) c q (S) P) : xP y pc lv (st) c q (S) P := by
  obtain ⟨r, h1, h2⟩ := h
  exact ⟨r, xe_lload_n hc hl h1, h2⟩
theorem xp_lload {k : Nat} {x : Int64} (hc : xc_code y pc = some (.lload k)) (hl : xld lv k = some (.long x)) (h : xP y (pc + 2) lv (.long x :: st) c q (S) P) : xP y pc lv (st) c q (S) P := by
  obtain ⟨r, h1, h2⟩ := h
  exact ⟨r, xe_lload hc hl h1, h2⟩
theorem xp_lstore_n {k : Fin 4} {x : Int64} (hc : xc_code y pc = some (.lstore_n k)) (hk : (k : Nat) + 1 < xc_nl y) (h : xP y (pc + 1) (xst2 lv k (.long x)) (st) c q (S) P) : xP y pc lv (.long x :: st) c q (S) P := by
  obtain ⟨r, h1, h2⟩ := h
  exact ⟨r, xe_lstore_n hc hk rfl h1, h2⟩
theorem xp_lstore {k : Nat} {x : Int64} (hc : xc_code y pc = some (.lstore k)) (hk : k + 1 < xc_nl y) (h : xP y (pc + 2) (xst2 lv k (.long x)) (st) c q (S) P) : xP y pc lv (.long x :: st) c q (S) P := by
  obtain ⟨r, h1, h2⟩ := h
  exact ⟨r, xe_lstore hc hk rfl h1, h2⟩
theorem xp_aload_n {k : Fin 4} {x : Nat} (hc : xc_code y pc = some (.aload_n k)) (hl : xld lv k = some (.ref x)) (h : xP y (pc + 1) lv (.ref x :: st) c q (S) P) : xP y pc lv (st) c q (S) P := by
  obtain ⟨r, h1, h2⟩ := h
  exact ⟨r, xe_aload_n hc hl h1, h2⟩
theorem xp_aload {k : Nat} {x : Nat} (hc : xc_code y pc = some (.aload k)) (hl : xld lv k = some (.ref x)) (h : xP y (pc + 2) lv (.ref x :: st) c q (S) P) : xP y pc lv (st) c q (S) P := by
  obtain ⟨r, h1, h2⟩ := h
  exact ⟨r, xe_aload hc hl h1, h2⟩
theorem xp_astore_n {k : Fin 4} {x : Nat} (hc : xc_code y pc = some (.astore_n k)) (hk : (k : Nat) < xc_nl y) (h : xP y (pc + 1) (xst1 lv k (.ref x)) (st) c q (S) P) : xP y pc lv (.ref x :: st) c q (S) P := by
  obtain ⟨r, h1, h2⟩ := h
  exact ⟨r, xe_astore_n hc hk rfl h1, h2⟩
theorem xp_astore {k : Nat} {x : Nat} (hc : xc_code y pc = some (.astore k)) (hk : k < xc_nl y) (h : xP y (pc + 2) (xst1 lv k (.ref x)) (st) c q (S) P) : xP y pc lv (.ref x :: st) c q (S) P := by
  obtain ⟨r, h1, h2⟩ := h
  exact ⟨r, xe_astore hc hk rfl h1, h2⟩
theorem xp_iinc {k : Nat} {d : Int} {m n : Nat} (hc : xc_code y pc = some (.iinc k d)) (hx : xld lv k = some (.int (nI m))) (hk : k < xc_nl y) (hv : nI m + Int32.ofInt d = nI n) (h : xP y (pc + 3) (xst1 lv k (.int (nI n))) (st) c q (S) P) : xP y pc lv (st) c q (S) P := by
  obtain ⟨r, h1, h2⟩ := h
  exact ⟨r, xe_iinc hc hx hk hv rfl h1, h2⟩
theorem xp_iadd {m n : Nat} (hc : xc_code y pc = some .iadd) (h : xP y (pc + 1) lv (.int (nI (m + n)) :: st) c q (S) P) : xP y pc lv (.int (nI n) :: .int (nI m) :: st) c q (S) P := by
  obtain ⟨r, h1, h2⟩ := h
  exact ⟨r, xe_iadd hc (by rw [nI_add]; exact h1), h2⟩
theorem xp_isub {m n : Nat} (hc : xc_code y pc = some .isub) (hs : n ≤ m) (h : xP y (pc + 1) lv (.int (nI (m - n)) :: st) c q (S) P) : xP y pc lv (.int (nI n) :: .int (nI m) :: st) c q (S) P := by
  obtain ⟨r, h1, h2⟩ := h
  exact ⟨r, xe_isub hc (by rw [nI_sub hs]; exact h1), h2⟩
theorem xp_isubR {a b : Int32} (hc : xc_code y pc = some .isub) (h : xP y (pc + 1) lv (.int (a - b) :: st) c q (S) P) : xP y pc lv (.int b :: .int a :: st) c q (S) P := by
  obtain ⟨r, h1, h2⟩ := h
  exact ⟨r, xe_isub hc h1, h2⟩
theorem xp_imul {m n : Nat} (hc : xc_code y pc = some .imul) (h : xP y (pc + 1) lv (.int (nI (m * n)) :: st) c q (S) P) : xP y pc lv (.int (nI n) :: .int (nI m) :: st) c q (S) P := by
  obtain ⟨r, h1, h2⟩ := h
  exact ⟨r, xe_imul hc (by rw [nI_mul]; exact h1), h2⟩
theorem xp_iand {a b : Int32} (hc : xc_code y pc = some .iand) (h : xP y (pc + 1) lv (.int (a &&& b) :: st) c q (S) P) : xP y pc lv (.int b :: .int a :: st) c q (S) P := by
  obtain ⟨r, h1, h2⟩ := h
  exact ⟨r, xe_iand hc h1, h2⟩
theorem xp_idiv {a b : Int32} (hc : xc_code y pc = some .idiv) (hb : ¬ b = 0) (h : xP y (pc + 1) lv (.int (a / b) :: st) c q (S) P) : xP y pc lv (.int b :: .int a :: st) c q (S) P := by
  obtain ⟨r, h1, h2⟩ := h
  exact ⟨r, xe_idiv hc hb h1, h2⟩
theorem xp_irem {a b : Int32} (hc : xc_code y pc = some .irem) (hb : ¬ b = 0) (h : xP y (pc + 1) lv (.int (a - a / b * b) :: st) c q (S) P) : xP y pc lv (.int b :: .int a :: st) c q (S) P := by
  obtain ⟨r, h1, h2⟩ := h
  exact ⟨r, xe_irem hc hb h1, h2⟩
theorem xp_ladd {a b : Int64} (hc : xc_code y pc = some .ladd) (h : xP y (pc + 1) lv (.long (a + b) :: st) c q (S) P) : xP y pc lv (.long b :: .long a :: st) c q (S) P := by
  obtain ⟨r, h1, h2⟩ := h
  exact ⟨r, xe_ladd hc h1, h2⟩
theorem xp_lsub {a b : Int64} (hc : xc_code y pc = some .lsub) (h : xP y (pc + 1) lv (.long (a - b) :: st) c q (S) P) : xP y pc lv (.long b :: .long a :: st) c q (S) P := by
  obtain ⟨r, h1, h2⟩ := h
  exact ⟨r, xe_lsub hc h1, h2⟩
theorem xp_lmul {a b : Int64} (hc : xc_code y pc = some .lmul) (h : xP y (pc + 1) lv (.long (a * b) :: st) c q (S) P) : xP y pc lv (.long b :: .long a :: st) c q (S) P := by
  obtain ⟨r, h1, h2⟩ := h
  exact ⟨r, xe_lmul hc h1, h2⟩
theorem xp_land {a b : Int64} (hc : xc_code y pc = some .land) (h : xP y (pc + 1) lv (.long (a &&& b) :: st) c q (S) P) : xP y pc lv (.long b :: .long a :: st) c q (S) P := by
  obtain ⟨r, h1, h2⟩ := h
  exact ⟨r, xe_land hc h1, h2⟩
theorem xp_lor {a b : Int64} (hc : xc_code y pc = some .lor) (h : xP y (pc + 1) lv (.long (a ||| b) :: st) c q (S) P) : xP y pc lv (.long b :: .long a :: st) c q (S) P := by
  obtain ⟨r, h1, h2⟩ := h
  exact ⟨r, xe_lor hc h1, h2⟩
theorem xp_ldiv {a b : Int64} (hc : xc_code y pc = some .ldiv) (hb : ¬ b = 0) (h : xP y (pc + 1) lv (.long (a / b) :: st) c q (S) P) : xP y pc lv (.long b :: .long a :: st) c q (S) P := by
  obtain ⟨r, h1, h2⟩ := h
  exact ⟨r, xe_ldiv hc hb h1, h2⟩
theorem xp_lshl {a : Int64} {b : Int32} (hc : xc_code y pc = some .lshl) (h : xP y (pc + 1) lv (.long (a <<< (b.toInt64 &&& 63)) :: st) c q (S) P) : xP y pc lv (.int b :: .long a :: st) c q (S) P := by
  obtain ⟨r, h1, h2⟩ := h
  exact ⟨r, xe_lshl hc h1, h2⟩
theorem xp_lshr {a : Int64} {b : Int32} (hc : xc_code y pc = some .lshr) (h : xP y (pc + 1) lv (.long (a >>> (b.toInt64 &&& 63)) :: st) c q (S) P) : xP y pc lv (.int b :: .long a :: st) c q (S) P := by
  obtain ⟨r, h1, h2⟩ := h
  exact ⟨r, xe_lshr hc h1, h2⟩
theorem xp_i2l {a : Int32} (hc : xc_code y pc = some .i2l) (h : xP y (pc + 1) lv (.long a.toInt64 :: st) c q (S) P) : xP y pc lv (.int a :: st) c q (S) P := by
  obtain ⟨r, h1, h2⟩ := h
  exact ⟨r, xe_i2l hc h1, h2⟩
theorem xp_l2i {a : Int64} (hc : xc_code y pc = some .l2i) (h : xP y (pc + 1) lv (.int a.toInt32 :: st) c q (S) P) : xP y pc lv (.long a :: st) c q (S) P := by
  obtain ⟨r, h1, h2⟩ := h
  exact ⟨r, xe_l2i hc h1, h2⟩
theorem xp_dup {a : Value} (hc : xc_code y pc = some .dup) (ha : a.category = 1) (h : xP y (pc + 1) lv (a :: a :: st) c q (S) P) : xP y pc lv (a :: st) c q (S) P := by
  obtain ⟨r, h1, h2⟩ := h
  exact ⟨r, xe_dup hc ha h1, h2⟩
theorem xp_dup2 {a b : Value} (hc : xc_code y pc = some .dup2) (ha : a.category = 1) (hb : b.category = 1) (h : xP y (pc + 1) lv (a :: b :: a :: b :: st) c q (S) P) : xP y pc lv (a :: b :: st) c q (S) P := by
  obtain ⟨r, h1, h2⟩ := h
  exact ⟨r, xe_dup2 hc ha hb h1, h2⟩
theorem xp_pop {a : Value} (hc : xc_code y pc = some .pop) (ha : a.category = 1) (h : xP y (pc + 1) lv (st) c q (S) P) : xP y pc lv (a :: st) c q (S) P := by
  obtain ⟨r, h1, h2⟩ := h
  exact ⟨r, xe_pop hc ha h1, h2⟩
theorem xp_goto {off : Int} (t : Nat) (hc : xc_code y pc = some (.goto off)) (ht : (pc : Int) + off = (t : Int)) (h : xP y t lv st c q S P) : xP y pc lv st c q S P := by
  obtain ⟨r, h1, h2⟩ := h
  exact ⟨r, xe_goto hc ht h1, h2⟩
theorem xp_gfi {x ci f a : Nat} (hc : xc_code y pc = some (.getfield x)) (hf : xc_fld (xc_own y) x = some (ci, f)) (hk : f < (xc_fk ci).length) (hs : (xc_fk ci).getD f 0 = 0 ∨ (xc_fk ci).getD f 0 = 3) (ht : T a = some (.inl ci)) (h : xP y (pc + 3) lv (.int (nI (A.1 a f)) :: st) c q (xm z T R A) P) : xP y pc lv (.ref a :: st) c q (xm z T R A) P := by
  obtain ⟨r, h1, h2⟩ := h
  exact ⟨r, xe_gfi hc hf hk hs ht h1, h2⟩
theorem xp_gfa {x ci f a b : Nat} (hc : xc_code y pc = some (.getfield x)) (hf : xc_fld (xc_own y) x = some (ci, f)) (hk : f < (xc_fk ci).length) (hs : (xc_fk ci).getD f 0 = 2) (ht : T a = some (.inl ci)) (hr : R a f = some b) (h : xP y (pc + 3) lv (.ref b :: st) c q (xm z T R A) P) : xP y pc lv (.ref a :: st) c q (xm z T R A) P := by
  obtain ⟨r, h1, h2⟩ := h
  exact ⟨r, xe_gfa hc hf hk hs ht hr h1, h2⟩
theorem xp_pfi {x ci f a v : Nat} (hc : xc_code y pc = some (.putfield x)) (hf : xc_fld (xc_own y) x = some (ci, f)) (hk : f < (xc_fk ci).length) (hm : xc_may y ci f = true) (hs : (xc_fk ci).getD f 0 = 0) (ht : T a = some (.inl ci)) (h : xP y (pc + 3) lv (st) c q (xm z T R (xsI A a f v)) P) : xP y pc lv (.int (nI v) :: .ref a :: st) c q (xm z T R A) P := by
  obtain ⟨r, h1, h2⟩ := h
  exact ⟨r, xe_pf hc hf hk hm ht (by rw [hs]; simp only [xpv, if_true]; rw [xm_i]) h1, h2⟩
theorem xp_pfz {x ci f a v : Nat} (hc : xc_code y pc = some (.putfield x)) (hf : xc_fld (xc_own y) x = some (ci, f)) (hk : f < (xc_fk ci).length) (hm : xc_may y ci f = true) (hs : (xc_fk ci).getD f 0 = 3) (ht : T a = some (.inl ci)) (hv : v = 0 ∨ v = 1) (h : xP y (pc + 3) lv (st) c q (xm z T R (xsI A a f v)) P) : xP y pc lv (.int (nI v) :: .ref a :: st) c q (xm z T R A) P := by
  obtain ⟨r, h1, h2⟩ := h
  exact ⟨r, xe_pf hc hf hk hm ht (by rw [hs]; simp only [xpv]; rw [if_neg (by decide), if_pos trivial, if_pos (by rcases hv with rfl | rfl <;> decide), xm_i]) h1, h2⟩
theorem xp_gs {x j : Nat} (hc : xc_code y pc = some (.getstatic x)) (hf : xc_sta (xc_own y) x = some j) (h : xP y (pc + 3) lv (.ref (1000000 + j) :: st) c q (S) P) : xP y pc lv (st) c q (S) P := by
  obtain ⟨r, h1, h2⟩ := h
  exact ⟨r, xe_gs hc hf h1, h2⟩
theorem xp_iald {a n i : Nat} (hc : xc_code y pc = some .iaload) (ht : T a = some (.inr (0, n))) (hi : i < n) (hN : n < 2 ^ 31) (h : xP y (pc + 1) lv (.int (nI (A.1 a i)) :: st) c q (xm z T R A) P) : xP y pc lv (.int (nI i) :: .ref a :: st) c q (xm z T R A) P := by
  obtain ⟨r, h1, h2⟩ := h
  exact ⟨r, xe_iald hc ht rfl hi hN h1, h2⟩
theorem xp_bald {a n i : Nat} (hc : xc_code y pc = some .baload) (ht : T a = some (.inr (2, n))) (hi : i < n) (hN : n < 2 ^ 31) (h : xP y (pc + 1) lv (.int (nI (A.1 a i)) :: st) c q (xm z T R A) P) : xP y pc lv (.int (nI i) :: .ref a :: st) c q (xm z T R A) P := by
  obtain ⟨r, h1, h2⟩ := h
  exact ⟨r, xe_bald hc ht rfl hi hN h1, h2⟩
theorem xp_lald {a n i : Nat} (hc : xc_code y pc = some .laload) (ht : T a = some (.inr (1, n))) (hi : i < n) (hN : n < 2 ^ 31) (h : xP y (pc + 1) lv (.long (A.2 a i) :: st) c q (xm z T R A) P) : xP y pc lv (.int (nI i) :: .ref a :: st) c q (xm z T R A) P := by
  obtain ⟨r, h1, h2⟩ := h
  exact ⟨r, xe_lald hc ht rfl hi hN h1, h2⟩
theorem xp_aald {a j n i b : Nat} (hc : xc_code y pc = some .aaload) (ht : T a = some (.inr (j, n))) (hj : 3 ≤ j) (hj2 : j < xc_na) (hi : i < n) (hN : n < 2 ^ 31) (hr : R a i = some b) (h : xP y (pc + 1) lv (.ref b :: st) c q (xm z T R A) P) : xP y pc lv (.int (nI i) :: .ref a :: st) c q (xm z T R A) P := by
  obtain ⟨r, h1, h2⟩ := h
  exact ⟨r, xe_aald hc ht hj hj2 rfl hi hN hr h1, h2⟩
theorem xp_iast {a n i v : Nat} (hc : xc_code y pc = some .iastore) (ht : T a = some (.inr (0, n))) (hi : i < n) (hN : n < 2 ^ 31) (h : xP y (pc + 1) lv (st) c q (xm z T R (xsI A a i v)) P) : xP y pc lv (.int (nI v) :: .int (nI i) :: .ref a :: st) c q (xm z T R A) P := by
  obtain ⟨r, h1, h2⟩ := h
  exact ⟨r, xe_iast hc ht rfl hi hN (by rw [xm_i]; exact h1), h2⟩
theorem xp_bast {a n i v : Nat} (hc : xc_code y pc = some .bastore) (ht : T a = some (.inr (2, n))) (hi : i < n) (hN : n < 2 ^ 31) (hv : v = 0 ∨ v = 1) (h : xP y (pc + 1) lv (st) c q (xm z T R (xsI A a i v)) P) : xP y pc lv (.int (nI v) :: .int (nI i) :: .ref a :: st) c q (xm z T R A) P := by
  obtain ⟨r, h1, h2⟩ := h
  exact ⟨r, xe_bast hc ht rfl hi hN (by rcases hv with rfl | rfl <;> decide) (by rw [xm_i]; exact h1), h2⟩
theorem xp_last {a n i : Nat} {v : Int64} (hc : xc_code y pc = some .lastore) (ht : T a = some (.inr (1, n))) (hi : i < n) (hN : n < 2 ^ 31) (h : xP y (pc + 1) lv (st) c q (xm z T R (xsJ A a i v)) P) : xP y pc lv (.long v :: .int (nI i) :: .ref a :: st) c q (xm z T R A) P := by
  obtain ⟨r, h1, h2⟩ := h
  exact ⟨r, xe_last hc ht rfl hi hN (by rw [xm_j]; exact h1), h2⟩
theorem xp_stld {a i : Nat} {L : List Int32} (hc : xc_code y pc = some .iaload) (ht : T a = none) (ha : ¬ a < 1000000) (hL : xc_ro (a - 1000000) = some L) (hi : i < L.length) (hN : L.length < 2 ^ 31) (h : xP y (pc + 1) lv (.int (L.getD i 0) :: st) c q (xm z T R A) P) : xP y pc lv (.int (nI i) :: .ref a :: st) c q (xm z T R A) P := by
  obtain ⟨r, h1, h2⟩ := h
  exact ⟨r, xe_stld hc ht ha hL rfl hi hN h1, h2⟩
theorem xp_ifeq {off : Int} {n : Nat} (t : Nat) (hc : xc_code y pc = some (.ifCond .eq off)) (ht : (pc : Int) + off = (t : Int)) (hn : n < 2 ^ 32) (h1 : n = 0 → xP y t lv st c q S P) (h2 : ¬ n = 0 → xP y (pc + 3) lv st c q S P) : xP y pc lv (.int (nI n) :: st) c q S P := by
  by_cases hb : n = 0
  · obtain ⟨r, k1, k2⟩ := h1 hb
    exact ⟨r, xe_if hc ht (fun _ => k1) (fun hf => (Bool.false_ne_true (hf.symm.trans (decide_eq_true ((nI_eq0 hn).mpr hb) : xcb .eq (nI n) 0 = true))).elim), k2⟩
  · obtain ⟨r, k1, k2⟩ := h2 hb
    exact ⟨r, xe_if hc ht (fun hf => absurd hf (by rw [Bool.not_eq_true]; exact decide_eq_false (fun z => hb ((nI_eq0 hn).mp z)))) (fun _ => k1), k2⟩
theorem xp_ifne {off : Int} {n : Nat} (t : Nat) (hc : xc_code y pc = some (.ifCond .ne off)) (ht : (pc : Int) + off = (t : Int)) (hn : n < 2 ^ 32) (h1 : ¬ n = 0 → xP y t lv st c q S P) (h2 : n = 0 → xP y (pc + 3) lv st c q S P) : xP y pc lv (.int (nI n) :: st) c q S P := by
  by_cases hb : ¬ n = 0
  · obtain ⟨r, k1, k2⟩ := h1 hb
    exact ⟨r, xe_if hc ht (fun _ => k1) (fun hf => (Bool.false_ne_true (hf.symm.trans (decide_eq_true ((not_congr (nI_eq0 hn)).mpr hb) : xcb .ne (nI n) 0 = true))).elim), k2⟩
  · obtain ⟨r, k1, k2⟩ := h2 (Classical.not_not.mp hb)
    exact ⟨r, xe_if hc ht (fun hf => absurd hf (by rw [Bool.not_eq_true]; exact decide_eq_false (fun z => hb ((not_congr (nI_eq0 hn)).mp z)))) (fun _ => k1), k2⟩
theorem xp_iflt {off : Int} {n : Nat} (t : Nat) (hc : xc_code y pc = some (.ifCond .lt off)) (ht : (pc : Int) + off = (t : Int)) (hn : n < 2 ^ 32) (h1 : 2 ^ 31 ≤ n → xP y t lv st c q S P) (h2 : n < 2 ^ 31 → xP y (pc + 3) lv st c q S P) : xP y pc lv (.int (nI n) :: st) c q S P := by
  by_cases hb : 2 ^ 31 ≤ n
  · obtain ⟨r, k1, k2⟩ := h1 hb
    exact ⟨r, xe_if hc ht (fun _ => k1) (fun hf => (Bool.false_ne_true (hf.symm.trans (decide_eq_true ((nI_neg hn).mpr hb) : xcb .lt (nI n) 0 = true))).elim), k2⟩
  · obtain ⟨r, k1, k2⟩ := h2 (by omega)
    exact ⟨r, xe_if hc ht (fun hf => absurd hf (by rw [Bool.not_eq_true]; exact decide_eq_false (fun z => hb ((nI_neg hn).mp z)))) (fun _ => k1), k2⟩
theorem nI_ge0 {a : Nat} (ha : a < 2 ^ 32) : (0 : Int32) ≤ nI a ↔ a < 2 ^ 31 := by
  rw [← Int32.not_lt, nI_neg ha]
  omega
theorem nI_gt0 {a : Nat} (ha : a < 2 ^ 32) : (0 : Int32) < nI a ↔ 0 < a ∧ a < 2 ^ 31 := by
  rw [Int32.lt_iff_le_and_ne, nI_ge0 ha, ne_comm, ne_eq, nI_eq0 ha]
  omega
theorem nI_le0 {a : Nat} (ha : a < 2 ^ 32) : nI a ≤ (0 : Int32) ↔ a = 0 ∨ 2 ^ 31 ≤ a := by
  rw [← Int32.not_lt, nI_gt0 ha]
  omega
theorem xp_ifge {off : Int} {n : Nat} (t : Nat) (hc : xc_code y pc = some (.ifCond .ge off)) (ht : (pc : Int) + off = (t : Int)) (hn : n < 2 ^ 32) (h1 : n < 2 ^ 31 → xP y t lv st c q S P) (h2 : 2 ^ 31 ≤ n → xP y (pc + 3) lv st c q S P) : xP y pc lv (.int (nI n) :: st) c q S P := by
  by_cases hb : n < 2 ^ 31
  · obtain ⟨r, k1, k2⟩ := h1 hb
    exact ⟨r, xe_if hc ht (fun _ => k1) (fun hf => (Bool.false_ne_true (hf.symm.trans (decide_eq_true ((nI_ge0 hn).mpr hb) : xcb .ge (nI n) 0 = true))).elim), k2⟩
  · obtain ⟨r, k1, k2⟩ := h2 (by omega)
    exact ⟨r, xe_if hc ht (fun hf => absurd hf (by rw [Bool.not_eq_true]; exact decide_eq_false (fun z => hb ((nI_ge0 hn).mp z)))) (fun _ => k1), k2⟩
theorem xp_ifgt {off : Int} {n : Nat} (t : Nat) (hc : xc_code y pc = some (.ifCond .gt off)) (ht : (pc : Int) + off = (t : Int)) (hn : n < 2 ^ 32) (h1 : 0 < n ∧ n < 2 ^ 31 → xP y t lv st c q S P) (h2 : n = 0 ∨ 2 ^ 31 ≤ n → xP y (pc + 3) lv st c q S P) : xP y pc lv (.int (nI n) :: st) c q S P := by
  by_cases hb : 0 < n ∧ n < 2 ^ 31
  · obtain ⟨r, k1, k2⟩ := h1 hb
    exact ⟨r, xe_if hc ht (fun _ => k1) (fun hf => (Bool.false_ne_true (hf.symm.trans (decide_eq_true ((nI_gt0 hn).mpr hb) : xcb .gt (nI n) 0 = true))).elim), k2⟩
  · obtain ⟨r, k1, k2⟩ := h2 (by omega)
    exact ⟨r, xe_if hc ht (fun hf => absurd hf (by rw [Bool.not_eq_true]; exact decide_eq_false (fun z => hb ((nI_gt0 hn).mp z)))) (fun _ => k1), k2⟩
theorem xp_ifle {off : Int} {n : Nat} (t : Nat) (hc : xc_code y pc = some (.ifCond .le off)) (ht : (pc : Int) + off = (t : Int)) (hn : n < 2 ^ 32) (h1 : n = 0 ∨ 2 ^ 31 ≤ n → xP y t lv st c q S P) (h2 : 0 < n ∧ n < 2 ^ 31 → xP y (pc + 3) lv st c q S P) : xP y pc lv (.int (nI n) :: st) c q S P := by
  by_cases hb : n = 0 ∨ 2 ^ 31 ≤ n
  · obtain ⟨r, k1, k2⟩ := h1 hb
    exact ⟨r, xe_if hc ht (fun _ => k1) (fun hf => (Bool.false_ne_true (hf.symm.trans (decide_eq_true ((nI_le0 hn).mpr hb) : xcb .le (nI n) 0 = true))).elim), k2⟩
  · obtain ⟨r, k1, k2⟩ := h2 (by omega)
    exact ⟨r, xe_if hc ht (fun hf => absurd hf (by rw [Bool.not_eq_true]; exact decide_eq_false (fun z => hb ((nI_le0 hn).mp z)))) (fun _ => k1), k2⟩
theorem xp_iceq {off : Int} {m n : Nat} (t : Nat) (hc : xc_code y pc = some (.if_icmp .eq off)) (ht : (pc : Int) + off = (t : Int)) (hm : m < 2 ^ 32) (hn : n < 2 ^ 32) (h1 : m = n → xP y t lv st c q S P) (h2 : ¬ m = n → xP y (pc + 3) lv st c q S P) : xP y pc lv (.int (nI n) :: .int (nI m) :: st) c q S P := by
  by_cases hb : m = n
  · obtain ⟨r, k1, k2⟩ := h1 hb
    exact ⟨r, xe_ic hc ht (fun _ => k1) (fun hf => (Bool.false_ne_true (hf.symm.trans (decide_eq_true ((nI_eq32 hm hn).mpr hb) : xcb .eq (nI m) (nI n) = true))).elim), k2⟩
  · obtain ⟨r, k1, k2⟩ := h2 hb
    exact ⟨r, xe_ic hc ht (fun hf => absurd hf (by rw [Bool.not_eq_true]; exact decide_eq_false (fun z => hb ((nI_eq32 hm hn).mp z)))) (fun _ => k1), k2⟩
theorem xp_icne {off : Int} {m n : Nat} (t : Nat) (hc : xc_code y pc = some (.if_icmp .ne off)) (ht : (pc : Int) + off = (t : Int)) (hm : m < 2 ^ 32) (hn : n < 2 ^ 32) (h1 : ¬ m = n → xP y t lv st c q S P) (h2 : m = n → xP y (pc + 3) lv st c q S P) : xP y pc lv (.int (nI n) :: .int (nI m) :: st) c q S P := by
  by_cases hb : ¬ m = n
  · obtain ⟨r, k1, k2⟩ := h1 hb
    exact ⟨r, xe_ic hc ht (fun _ => k1) (fun hf => (Bool.false_ne_true (hf.symm.trans (decide_eq_true ((not_congr (nI_eq32 hm hn)).mpr hb) : xcb .ne (nI m) (nI n) = true))).elim), k2⟩
  · obtain ⟨r, k1, k2⟩ := h2 (Classical.not_not.mp hb)
    exact ⟨r, xe_ic hc ht (fun hf => absurd hf (by rw [Bool.not_eq_true]; exact decide_eq_false (fun z => hb ((not_congr (nI_eq32 hm hn)).mp z)))) (fun _ => k1), k2⟩
theorem xp_iclt {off : Int} {m n : Nat} (t : Nat) (hc : xc_code y pc = some (.if_icmp .lt off)) (ht : (pc : Int) + off = (t : Int)) (hm : m < 2 ^ 31) (hn : n < 2 ^ 31) (h1 : m < n → xP y t lv st c q S P) (h2 : n ≤ m → xP y (pc + 3) lv st c q S P) : xP y pc lv (.int (nI n) :: .int (nI m) :: st) c q S P := by
  by_cases hb : m < n
  · obtain ⟨r, k1, k2⟩ := h1 hb
    exact ⟨r, xe_ic hc ht (fun _ => k1) (fun hf => (Bool.false_ne_true (hf.symm.trans (decide_eq_true ((nI_ltI hm hn).mpr hb) : xcb .lt (nI m) (nI n) = true))).elim), k2⟩
  · obtain ⟨r, k1, k2⟩ := h2 (by omega)
    exact ⟨r, xe_ic hc ht (fun hf => absurd hf (by rw [Bool.not_eq_true]; exact decide_eq_false (fun z => hb ((nI_ltI hm hn).mp z)))) (fun _ => k1), k2⟩
theorem xp_icge {off : Int} {m n : Nat} (t : Nat) (hc : xc_code y pc = some (.if_icmp .ge off)) (ht : (pc : Int) + off = (t : Int)) (hm : m < 2 ^ 31) (hn : n < 2 ^ 31) (h1 : n ≤ m → xP y t lv st c q S P) (h2 : m < n → xP y (pc + 3) lv st c q S P) : xP y pc lv (.int (nI n) :: .int (nI m) :: st) c q S P := by
  by_cases hb : n ≤ m
  · obtain ⟨r, k1, k2⟩ := h1 hb
    exact ⟨r, xe_ic hc ht (fun _ => k1) (fun hf => (Bool.false_ne_true (hf.symm.trans (decide_eq_true ((nI_leI hn hm).mpr hb) : xcb .ge (nI m) (nI n) = true))).elim), k2⟩
  · obtain ⟨r, k1, k2⟩ := h2 (by omega)
    exact ⟨r, xe_ic hc ht (fun hf => absurd hf (by rw [Bool.not_eq_true]; exact decide_eq_false (fun z => hb ((nI_leI hn hm).mp z)))) (fun _ => k1), k2⟩
theorem xp_icgt {off : Int} {m n : Nat} (t : Nat) (hc : xc_code y pc = some (.if_icmp .gt off)) (ht : (pc : Int) + off = (t : Int)) (hm : m < 2 ^ 31) (hn : n < 2 ^ 31) (h1 : n < m → xP y t lv st c q S P) (h2 : m ≤ n → xP y (pc + 3) lv st c q S P) : xP y pc lv (.int (nI n) :: .int (nI m) :: st) c q S P := by
  by_cases hb : n < m
  · obtain ⟨r, k1, k2⟩ := h1 hb
    exact ⟨r, xe_ic hc ht (fun _ => k1) (fun hf => (Bool.false_ne_true (hf.symm.trans (decide_eq_true ((nI_ltI hn hm).mpr hb) : xcb .gt (nI m) (nI n) = true))).elim), k2⟩
  · obtain ⟨r, k1, k2⟩ := h2 (by omega)
    exact ⟨r, xe_ic hc ht (fun hf => absurd hf (by rw [Bool.not_eq_true]; exact decide_eq_false (fun z => hb ((nI_ltI hn hm).mp z)))) (fun _ => k1), k2⟩
theorem xp_icle {off : Int} {m n : Nat} (t : Nat) (hc : xc_code y pc = some (.if_icmp .le off)) (ht : (pc : Int) + off = (t : Int)) (hm : m < 2 ^ 31) (hn : n < 2 ^ 31) (h1 : m ≤ n → xP y t lv st c q S P) (h2 : n < m → xP y (pc + 3) lv st c q S P) : xP y pc lv (.int (nI n) :: .int (nI m) :: st) c q S P := by
  by_cases hb : m ≤ n
  · obtain ⟨r, k1, k2⟩ := h1 hb
    exact ⟨r, xe_ic hc ht (fun _ => k1) (fun hf => (Bool.false_ne_true (hf.symm.trans (decide_eq_true ((nI_leI hm hn).mpr hb) : xcb .le (nI m) (nI n) = true))).elim), k2⟩
  · obtain ⟨r, k1, k2⟩ := h2 (by omega)
    exact ⟨r, xe_ic hc ht (fun hf => absurd hf (by rw [Bool.not_eq_true]; exact decide_eq_false (fun z => hb ((nI_leI hm hn).mp z)))) (fun _ => k1), k2⟩
theorem lg_cmp0 (a b : Int64) : lg_cmp a b = 0 ↔ a = b := by
  unfold lg_cmp
  split
  · next h => exact ⟨fun q => absurd q (by decide), fun q => absurd h (by rw [q]; exact Int64.lt_irrefl)⟩
  · split
    · next h => exact ⟨fun _ => h, fun _ => rfl⟩
    · next h => exact ⟨fun q => absurd q (by decide), fun q => absurd q h⟩
theorem xp_lceq {a b : Int64} {off : Int} (t : Nat) (hc : xc_code y pc = some .lcmp) (hc2 : xc_code y (pc + 1) = some (.ifCond .eq off)) (ht : ((pc + 1 : Nat) : Int) + off = (t : Int)) (h1 : a = b → xP y t lv st c q S P) (h2 : ¬ a = b → xP y (pc + 1 + 3) lv st c q S P) : xP y pc lv (.long b :: .long a :: st) c q S P := by
  by_cases hb : a = b
  · obtain ⟨r, k1, k2⟩ := h1 hb
    exact ⟨r, xe_lcmp hc (xe_if hc2 ht (fun _ => k1) (fun hf => (Bool.false_ne_true (hf.symm.trans (decide_eq_true ((lg_cmp0 a b).mpr hb) : xcb .eq (lg_cmp a b) 0 = true))).elim)), k2⟩
  · obtain ⟨r, k1, k2⟩ := h2 hb
    exact ⟨r, xe_lcmp hc (xe_if hc2 ht (fun hf => absurd hf (by rw [Bool.not_eq_true]; exact decide_eq_false (fun z => hb ((lg_cmp0 a b).mp z)))) (fun _ => k1)), k2⟩
theorem xp_lcne {a b : Int64} {off : Int} (t : Nat) (hc : xc_code y pc = some .lcmp) (hc2 : xc_code y (pc + 1) = some (.ifCond .ne off)) (ht : ((pc + 1 : Nat) : Int) + off = (t : Int)) (h1 : ¬ a = b → xP y t lv st c q S P) (h2 : a = b → xP y (pc + 1 + 3) lv st c q S P) : xP y pc lv (.long b :: .long a :: st) c q S P := by
  by_cases hb : a = b
  · obtain ⟨r, k1, k2⟩ := h2 hb
    exact ⟨r, xe_lcmp hc (xe_if hc2 ht (fun hf => absurd hf (by rw [Bool.not_eq_true]; exact decide_eq_false (fun z => z ((lg_cmp0 a b).mpr hb)))) (fun _ => k1)), k2⟩
  · obtain ⟨r, k1, k2⟩ := h1 hb
    exact ⟨r, xe_lcmp hc (xe_if hc2 ht (fun _ => k1) (fun hf => (Bool.false_ne_true (hf.symm.trans (decide_eq_true (fun z => hb ((lg_cmp0 a b).mp z)) : xcb .ne (lg_cmp a b) 0 = true))).elim)), k2⟩
theorem xp_lcge {a b : Int64} {off : Int} (t : Nat) (hc : xc_code y pc = some .lcmp) (hc2 : xc_code y (pc + 1) = some (.ifCond .ge off)) (ht : ((pc + 1 : Nat) : Int) + off = (t : Int)) (h1 : ¬ a < b → xP y t lv st c q S P) (h2 : a < b → xP y (pc + 1 + 3) lv st c q S P) : xP y pc lv (.long b :: .long a :: st) c q S P := by
  by_cases hb : a < b
  · obtain ⟨r, k1, k2⟩ := h2 hb
    exact ⟨r, xe_lcmp hc (xe_if hc2 ht (fun hf => absurd hf (by rw [Bool.not_eq_true]; exact decide_eq_false (fun z => Int64.not_le.mpr hb ((lg_cmp_ge a b).mp z)))) (fun _ => k1)), k2⟩
  · obtain ⟨r, k1, k2⟩ := h1 hb
    exact ⟨r, xe_lcmp hc (xe_if hc2 ht (fun _ => k1) (fun hf => (Bool.false_ne_true (hf.symm.trans (decide_eq_true ((lg_cmp_ge a b).mpr (Int64.not_lt.mp hb)) : xcb .ge (lg_cmp a b) 0 = true))).elim)), k2⟩
theorem xp_tsw {d lo hi off : Int} {offs : Array Int} {n : Nat} (t : Nat) (hc : xc_code y pc = some (.tableswitch d lo hi offs)) (hn : n < 2 ^ 31) (ho : (if (n : Int) < lo ∨ hi < (n : Int) then some d else offs[((n : Int) - lo).toNat]?) = some off) (ht : (pc : Int) + off = (t : Int)) (h : xP y t lv st c q S P) : xP y pc lv (.int (nI n) :: st) c q S P := by
  obtain ⟨r, h1, h2⟩ := h
  exact ⟨r, xe_tsw hc (by rw [nI_toInt hn]; exact ho) ht h1, h2⟩
theorem xp_lsw {d off : Int} {ps : Array (Int × Int)} {n : Nat} (t : Nat) (hc : xc_code y pc = some (.lookupswitch d ps)) (hn : n < 2 ^ 31) (hp : (ps.toList.zip (ps.toList.drop 1)).all (fun (a, next) => a.1 < next.1) = true) (ho : Op.lookupswitch.offset ps.toList d (n : Int) = off) (ht : (pc : Int) + off = (t : Int)) (h : xP y t lv st c q S P) : xP y pc lv (.int (nI n) :: st) c q S P := by
  obtain ⟨r, h1, h2⟩ := h
  exact ⟨r, xe_lsw hc hp (by rw [nI_toInt hn]; exact ho) ht h1, h2⟩
theorem xp_iv {x y2 na : Nat} {as : List Value} {v : Option Value} {S1 : xS} {st2 : List Value} (hc : xc_code y pc = some (.invokevirtual x)) (ho : xc_vrt (xc_own y) x = some (y2, na)) (hl : na ≤ st.length) (hv : xc_lev y2 < xc_lev y) (hm1 : c + xc_mc y2 ≤ xc_mc y) (hm2 : q + xc_ms y2 ≤ xc_ms y) (h3 : ((st.drop na).map fun v => v.category).sum ≤ 8) (ha : (st.take na).reverse = as) (h4 : xrcv y2 S as = true) (hF : xF y2 as S (.inr v, S1)) (hst : v.toList ++ st.drop na = st2) (h : xP y (pc + 3) lv st2 (c + xc_mc y2) (q + xc_ms y2) S1 P) : xP y pc lv st c q S P := by
  obtain ⟨r, k1, k2⟩ := h
  exact ⟨r, xe_iv hc ho ha hl hv hm1 hm2 h3 h4 hF hst k1, k2⟩
theorem xp_is {x y2 na : Nat} {as : List Value} {v : Option Value} {S1 : xS} {st2 : List Value} (hc : xc_code y pc = some (.invokestatic x)) (hmi : xc_min (xc_own y) x = false) (ho : xc_stt (xc_own y) x = some (y2, na)) (hl : na ≤ st.length) (hv : xc_lev y2 < xc_lev y) (hm1 : c + xc_mc y2 ≤ xc_mc y) (hm2 : q + xc_ms y2 ≤ xc_ms y) (h3 : ((st.drop na).map fun v => v.category).sum ≤ 8) (ha : (st.take na).reverse = as) (h4 : xrcv y2 S as = true) (hF : xF y2 as S (.inr v, S1)) (hst : v.toList ++ st.drop na = st2) (h : xP y (pc + 3) lv st2 (c + xc_mc y2) (q + xc_ms y2) S1 P) : xP y pc lv st c q S P := by
  obtain ⟨r, k1, k2⟩ := h
  exact ⟨r, xe_is hc hmi ho ha hl hv hm1 hm2 h3 h4 hF hst k1, k2⟩
theorem xp_min {x m n : Nat} (hc : xc_code y pc = some (.invokestatic x)) (hmi : xc_min (xc_own y) x = true) (h1 : c ≤ xc_mc y) (h2 : q ≤ xc_ms y) (h3 : (st.map fun v => v.category).sum ≤ 8) (hm : m < 2 ^ 31) (hn : n < 2 ^ 31) (h : xP y (pc + 3) lv (.int (nI (min m n)) :: st) c q S P) : xP y pc lv (.int (nI n) :: .int (nI m) :: st) c q S P := by
  obtain ⟨r, k1, k2⟩ := h
  refine ⟨r, xe_min hc hmi h1 h2 h3 ?_, k2⟩
  by_cases hq : n < m
  · rw [if_pos ((nI_ltI hn hm).mpr hq)]
    rw [show min m n = n by omega] at k1
    exact k1
  · rw [if_neg (fun z => hq ((nI_ltI hn hm).mp z))]
    rw [show min m n = m by omega] at k1
    exact k1
theorem xp_ireturn {v : Int32} (hc : xc_code y pc = some .ireturn) (h1 : c ≤ xc_mc y) (h2 : q ≤ xc_ms y) (h3 : xc_ret y = 1) (h : P (.inr (some (.int v)), S)) : xP y pc lv [.int v] c q S P := ⟨_, xe_ireturn hc h1 h2 h3, h⟩
theorem xp_zreturn {n : Nat} (hc : xc_code y pc = some .ireturn) (h1 : c ≤ xc_mc y) (h2 : q ≤ xc_ms y) (h3 : xc_ret y = 2) (hv : n = 0 ∨ n = 1) (h : P (.inr (some (.int (nI n))), S)) : xP y pc lv [.int (nI n)] c q S P := ⟨_, xe_zreturn hc h1 h2 h3 (by rcases hv with rfl | rfl <;> decide), h⟩
theorem xp_lreturn {v : Int64} (hc : xc_code y pc = some .lreturn) (h1 : c ≤ xc_mc y) (h2 : q ≤ xc_ms y) (h3 : xc_ret y = 3) (h : P (.inr (some (.long v)), S)) : xP y pc lv [.long v] c q S P := ⟨_, xe_lreturn hc h1 h2 h3, h⟩
theorem xp_areturn {v : Nat} (hc : xc_code y pc = some .areturn) (h1 : c ≤ xc_mc y) (h2 : q ≤ xc_ms y) (h3 : xc_ret y = 4) (h : P (.inr (some (.ref v)), S)) : xP y pc lv [.ref v] c q S P := ⟨_, xe_areturn hc h1 h2 h3, h⟩
theorem xp_return (hc : xc_code y pc = some .return_) (h1 : c ≤ xc_mc y) (h2 : q ≤ xc_ms y) (h3 : xc_ret y = 0) (h : P (.inr none, S)) : xP y pc lv [] c q S P := ⟨_, xe_return hc h1 h2 h3, h⟩
theorem xp_throw {x ex n : Nat} (hc : xc_code y pc = some (.new x)) (ho : xc_exc (xc_own y) x = some (ex, n)) (hcs : (st.map fun v => v.category).sum ≤ 8) (h1 : c + 1 ≤ xc_mc y) (h2 : q + n ≤ xc_ms y) (h3 : xc_thr y pc = true) (h : P (.inl ex, xm (z + 1) T R A)) : xP y pc lv st c q (xm z T R A) P := by
  refine ⟨_, xE_go hc ⟨0, ?_⟩, h⟩
  simp only [xstep, ho]
  rw [if_neg (by simp), if_pos hcs]
  simp only [xthr, if_pos h1, if_pos h2, if_pos h3]
  rfl
end PW
