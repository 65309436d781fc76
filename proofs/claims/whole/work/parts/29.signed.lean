-- COMPARISONS OF ANY TWO INTS
def sg (n : Nat) : Int := if n < 2 ^ 31 then (n : Int) else (n : Int) - 2 ^ 32
theorem sg_p {n : Nat} (h : n < 2 ^ 31) : sg n = n := if_pos h
theorem sg_n {n : Nat} (h : 2 ^ 31 ≤ n) : sg n = (n : Int) - 2 ^ 32 := if_neg (by omega)
theorem nI_sg {a : Nat} (ha : a < 2 ^ 32) : (nI a).toInt = sg a := by
  unfold nI
  rw [Int32.toInt_ofNat']
  have e0 : ((Int32.size : Nat) : Int) = 4294967296 := rfl
  simp only [Int.bmod, e0]
  unfold sg
  split <;> split <;> omega
theorem nI_ltS {m n : Nat} (hm : m < 2 ^ 32) (hn : n < 2 ^ 32) : nI m < nI n ↔ sg m < sg n := by rw [Int32.lt_iff_toInt_lt, nI_sg hm, nI_sg hn]
theorem nI_leS {m n : Nat} (hm : m < 2 ^ 32) (hn : n < 2 ^ 32) : nI m ≤ nI n ↔ sg m ≤ sg n := by rw [Int32.le_iff_toInt_le, nI_sg hm, nI_sg hn]
section PS
variable {y pc : Nat} {lv : xL} {st : List Value} {c q : Nat} {S : xS} {P : xR → Prop}
theorem xp_icltS {off : Int} {m n : Nat} (t : Nat) (hc : xc_code y pc = some (.if_icmp .lt off)) (ht : (pc : Int) + off = (t : Int)) (hm : m < 2 ^ 32) (hn : n < 2 ^ 32) (h1 : sg m < sg n → xP y t lv st c q S P) (h2 : sg n ≤ sg m → xP y (pc + 3) lv st c q S P) : xP y pc lv (.int (nI n) :: .int (nI m) :: st) c q S P := by
  by_cases hb : sg m < sg n
  · obtain ⟨r, k1, k2⟩ := h1 hb
    exact ⟨r, xe_ic hc ht (fun _ => k1) (fun hf => (Bool.false_ne_true (hf.symm.trans (decide_eq_true ((nI_ltS hm hn).mpr hb) : xcb .lt (nI m) (nI n) = true))).elim), k2⟩
  · obtain ⟨r, k1, k2⟩ := h2 (by omega)
    exact ⟨r, xe_ic hc ht (fun hf => absurd hf (by rw [Bool.not_eq_true]; exact decide_eq_false (fun z => hb ((nI_ltS hm hn).mp z)))) (fun _ => k1), k2⟩
theorem xp_icgeS {off : Int} {m n : Nat} (t : Nat) (hc : xc_code y pc = some (.if_icmp .ge off)) (ht : (pc : Int) + off = (t : Int)) (hm : m < 2 ^ 32) (hn : n < 2 ^ 32) (h1 : sg n ≤ sg m → xP y t lv st c q S P) (h2 : sg m < sg n → xP y (pc + 3) lv st c q S P) : xP y pc lv (.int (nI n) :: .int (nI m) :: st) c q S P := by
  by_cases hb : sg n ≤ sg m
  · obtain ⟨r, k1, k2⟩ := h1 hb
    exact ⟨r, xe_ic hc ht (fun _ => k1) (fun hf => (Bool.false_ne_true (hf.symm.trans (decide_eq_true ((nI_leS hn hm).mpr hb) : xcb .ge (nI m) (nI n) = true))).elim), k2⟩
  · obtain ⟨r, k1, k2⟩ := h2 (by omega)
    exact ⟨r, xe_ic hc ht (fun hf => absurd hf (by rw [Bool.not_eq_true]; exact decide_eq_false (fun z => hb ((nI_leS hn hm).mp z)))) (fun _ => k1), k2⟩
theorem xp_icgtS {off : Int} {m n : Nat} (t : Nat) (hc : xc_code y pc = some (.if_icmp .gt off)) (ht : (pc : Int) + off = (t : Int)) (hm : m < 2 ^ 32) (hn : n < 2 ^ 32) (h1 : sg n < sg m → xP y t lv st c q S P) (h2 : sg m ≤ sg n → xP y (pc + 3) lv st c q S P) : xP y pc lv (.int (nI n) :: .int (nI m) :: st) c q S P := by
  by_cases hb : sg n < sg m
  · obtain ⟨r, k1, k2⟩ := h1 hb
    exact ⟨r, xe_ic hc ht (fun _ => k1) (fun hf => (Bool.false_ne_true (hf.symm.trans (decide_eq_true ((nI_ltS hn hm).mpr hb) : xcb .gt (nI m) (nI n) = true))).elim), k2⟩
  · obtain ⟨r, k1, k2⟩ := h2 (by omega)
    exact ⟨r, xe_ic hc ht (fun hf => absurd hf (by rw [Bool.not_eq_true]; exact decide_eq_false (fun z => hb ((nI_ltS hn hm).mp z)))) (fun _ => k1), k2⟩
theorem xp_icleS {off : Int} {m n : Nat} (t : Nat) (hc : xc_code y pc = some (.if_icmp .le off)) (ht : (pc : Int) + off = (t : Int)) (hm : m < 2 ^ 32) (hn : n < 2 ^ 32) (h1 : sg m ≤ sg n → xP y t lv st c q S P) (h2 : sg n < sg m → xP y (pc + 3) lv st c q S P) : xP y pc lv (.int (nI n) :: .int (nI m) :: st) c q S P := by
  by_cases hb : sg m ≤ sg n
  · obtain ⟨r, k1, k2⟩ := h1 hb
    exact ⟨r, xe_ic hc ht (fun _ => k1) (fun hf => (Bool.false_ne_true (hf.symm.trans (decide_eq_true ((nI_leS hm hn).mpr hb) : xcb .le (nI m) (nI n) = true))).elim), k2⟩
  · obtain ⟨r, k1, k2⟩ := h2 (by omega)
    exact ⟨r, xe_ic hc ht (fun hf => absurd hf (by rw [Bool.not_eq_true]; exact decide_eq_false (fun z => hb ((nI_leS hm hn).mp z)))) (fun _ => k1), k2⟩
theorem xp_iincR {k : Nat} {d : Int} {x v : Int32} (hc : xc_code y pc = some (.iinc k d)) (hx : xld lv k = some (.int x)) (hk : k < xc_nl y) (hv : x + Int32.ofInt d = v) (h : xP y (pc + 3) (xst1 lv k (.int v)) st c q S P) : xP y pc lv st c q S P := by
  obtain ⟨r, h1, h2⟩ := h
  exact ⟨r, xe_iinc hc hx hk hv rfl h1, h2⟩
end PS
