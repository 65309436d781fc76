-- RULES FOR THE LAW
def xEL (L : Nat) (xs : Nat → Int32) (pc : Nat) (lv : xL) (st : List Value) (c q : Nat) (S : xS) (r : xR) : Prop := ∃ n, xlev L xs n pc lv st c q S = some r
def xPL (L : Nat) (xs : Nat → Int32) (pc : Nat) (lv : xL) (st : List Value) (c q : Nat) (S : xS) (P : xR → Prop) : Prop := ∃ r, xEL L xs pc lv st c q S r ∧ P r
theorem xmeth_mono {n k y : Nat} {as : List Value} {S : xS} {r : xR} (hk : n ≤ k) (h : xmeth n y as S = some r) : xmeth k y as S = some r := by
  unfold xmeth at h ⊢
  split at h
  · next hf => rw [if_pos hf]; exact xev_mono hk h
  · cases h
theorem xclW_mono {k k2 : List Value → Nat → Nat → xS → Option xR} {call call2 : Nat → List Value → xS → Option xR} {o : Option (Nat × Nat)} {c q : Nat} {S : xS} {st : List Value} {r : xR} (hk : ∀ t c q S, k t c q S = some r → k2 t c q S = some r) (hc : ∀ y as S r, call y as S = some r → call2 y as S = some r) (h : xclW k call o c q S st = some r) : xclW k2 call2 o c q S st = some r := by
  unfold xclW at h ⊢
  split at h
  · next y na =>
    split at h
    · next h1 =>
      split at h
      · next h2 =>
        split at h
        · next h3 =>
          split at h
          · next h4 =>
            split at h
            · next h5 =>
              split at h
              · next v S1 hx =>
                simp only [if_pos h1, if_pos h2, if_pos h3, if_pos h4, if_pos h5, hc _ _ _ _ hx]
                exact hk _ _ _ _ h
              · cases h
            · cases h
          · cases h
        · cases h
      · cases h
    · cases h
  · cases h
theorem xsld_mono {k k2 : List Value → Option xR} {L : Nat} {xs : Nat → Int32} {st : List Value} {r : xR} (hk : ∀ t, k t = some r → k2 t = some r) (h : xsld k L xs st = some r) : xsld k2 L xs st = some r := by
  unfold xsld at h ⊢
  split at h
  · split at h
    · next h1 =>
      split at h
      · cases h
      · next h2 => rw [if_pos h1, if_neg h2]; exact hk _ h
    · cases h
  · cases h
theorem xsln_mono {k k2 : List Value → Option xR} {L : Nat} {st : List Value} {r : xR} (hk : ∀ t, k t = some r → k2 t = some r) (h : xsln k L st = some r) : xsln k2 L st = some r := by
  unfold xsln at h ⊢
  split at h
  · split at h
    · next h1 => rw [if_pos h1]; exact hk _ h
    · cases h
  · cases h
theorem xstepL_mono {L : Nat} {xs : Nat → Int32} {K K2 : xK} {call call2 : Nat → List Value → xS → Option xR} {pc : Nat} {i : Instr} {lv : xL} {st : List Value} {c q : Nat} {S : xS} {r : xR} (hK : ∀ pc lv st c q S, K pc lv st c q S = some r → K2 pc lv st c q S = some r) (hc : ∀ y as S r, call y as S = some r → call2 y as S = some r) (h : xstepL L xs K call pc i lv st c q S = some r) : xstepL L xs K2 call2 pc i lv st c q S = some r := by
  unfold xstepL at h ⊢
  split at h
  · exact xsld_mono (fun t h => hK _ _ _ _ _ _ h) h
  · exact xsln_mono (fun t h => hK _ _ _ _ _ _ h) h
  · exact xclW_mono (fun t c q S h => hK _ _ _ _ _ _ h) hc h
  · exact xstep_mono hK hc h
theorem xlev_succ {L : Nat} {xs : Nat → Int32} : ∀ (n pc : Nat) (lv : xL) (st : List Value) (c q : Nat) (S : xS) (r : xR), xlev L xs n pc lv st c q S = some r → xlev L xs (n + 1) pc lv st c q S = some r := by
  intro n
  induction n with
  | zero => intro pc lv st c q S r h; cases h
  | succ n ih =>
    intro pc lv st c q S r h
    unfold xlev at h ⊢
    split at h
    · next i hi =>
      exact xstepL_mono (fun pc lv st c q S h => ih pc lv st c q S r h) (fun y as S r h => xmeth_mono (Nat.le_succ n) h) h
    · cases h
theorem xlev_mono {L : Nat} {xs : Nat → Int32} {n k pc : Nat} {lv : xL} {st : List Value} {c q : Nat} {S : xS} {r : xR} (hk : n ≤ k) (h : xlev L xs n pc lv st c q S = some r) : xlev L xs k pc lv st c q S = some r := by
  obtain ⟨d, rfl⟩ := Nat.exists_eq_add_of_le hk
  induction d with
  | zero => exact h
  | succ d ih => exact xlev_succ _ _ _ _ _ _ _ _ (ih (by omega))
theorem xlev_weak {L : Nat} {xs : Nat → Int32} : ∀ (n pc : Nat) (lv lv2 : xL) (st : List Value) (c q : Nat) (S : xS) (r : xR), xle lv lv2 → xnd lv → xlev L xs n pc lv st c q S = some r → xlev L xs n pc lv2 st c q S = some r := by
  intro n
  induction n with
  | zero => intro pc lv lv2 st c q S r _ _ h; cases h
  | succ n ih =>
    intro pc lv lv2 st c q S r hle hnd h
    unfold xlev at h ⊢
    split at h
    · next i hi =>
      unfold xstepL at h ⊢
      split at h
      · exact xsld_mono (fun t h => ih _ _ _ _ _ _ _ _ hle hnd h) h
      · exact xsln_mono (fun t h => ih _ _ _ _ _ _ _ _ hle hnd h) h
      · exact xclW_mono (fun t c q S h => ih _ _ _ _ _ _ _ _ hle hnd h) (fun _ _ _ _ h => h) h
      · exact xstep_weak (fun pc lv lv2 st c q S h1 h2 => ih pc lv lv2 st c q S r h1 h2) hle hnd h
    · cases h
section LR
variable {L : Nat} {xs : Nat → Int32} {pc : Nat} {lv : xL} {st : List Value} {c q : Nat} {S : xS} {r : xR} {P : xR → Prop} {z : Nat} {T : Nat → Option xT} {R : Nat → Nat → Option Nat} {A : xQ}
theorem xL_go {i : Instr} (hc : xc_code 186 pc = some i) (h : ∃ n, xstepL L xs (xlev L xs n) (fun y2 as S2 => xmeth n y2 as S2) pc i lv st c q S = some r) : xEL L xs pc lv st c q S r := by
  obtain ⟨n, hn⟩ := h
  exact ⟨n + 1, by unfold xlev; rw [hc]; exact hn⟩
theorem xpL_weak {lv2 : xL} (lv : xL) (hle : xle lv lv2) (hnd : xnd lv) (h : xPL L xs pc lv st c q S P) : xPL L xs pc lv2 st c q S P := by
  obtain ⟨r, ⟨n, hn⟩, h2⟩ := h
  exact ⟨r, ⟨n, xlev_weak n pc lv lv2 st c q S r hle hnd hn⟩, h2⟩
theorem xeL_iconst {k : Int} {v : Int32} (hc : xc_code 186 pc = some (.iconst k)) (hv : Int32.ofInt k = v) (h : xEL L xs (pc + 1) lv (.int v :: st) c q S r) : xEL L xs pc lv st c q S r := by
  subst hv; exact xL_go hc (let ⟨n, hn⟩ := h; ⟨n, hn⟩)
theorem xeL_bipush {k : Int} {v : Int32} (hc : xc_code 186 pc = some (.bipush k)) (hv : (Int8.ofInt k).toInt32 = v) (h : xEL L xs (pc + 2) lv (.int v :: st) c q S r) : xEL L xs pc lv st c q S r := by
  subst hv; exact xL_go hc (let ⟨n, hn⟩ := h; ⟨n, hn⟩)
theorem xeL_iload {k : Nat} {x : Int32} (hc : xc_code 186 pc = some (.iload k)) (hl : xld lv k = some (.int x)) (h : xEL L xs (pc + 2) lv (.int x :: st) c q S r) : xEL L xs pc lv st c q S r :=
  xL_go hc (let ⟨n, hn⟩ := h; ⟨n, by simp only [xstepL, xstep, xldI, hl]; exact hn⟩)
theorem xeL_aload_n {k : Fin 4} {x : Nat} (hc : xc_code 186 pc = some (.aload_n k)) (hl : xld lv k = some (.ref x)) (h : xEL L xs (pc + 1) lv (.ref x :: st) c q S r) : xEL L xs pc lv st c q S r :=
  xL_go hc (let ⟨n, hn⟩ := h; ⟨n, by simp only [xstepL, xstep, xldA, hl]; exact hn⟩)
theorem xeL_istore {k : Nat} {x : Int32} {lv2 : xL} (hc : xc_code 186 pc = some (.istore k)) (hk : k < xc_nl 186) (hl : xst1 lv k (.int x) = lv2) (h : xEL L xs (pc + 2) lv2 st c q S r) : xEL L xs pc lv (.int x :: st) c q S r :=
  xL_go hc (let ⟨n, hn⟩ := h; ⟨n, by simp only [xstepL, xstep, xstI, if_pos hk, hl]; exact hn⟩)
theorem xeL_astore_n {k : Fin 4} {x : Nat} {lv2 : xL} (hc : xc_code 186 pc = some (.astore_n k)) (hk : (k : Nat) < xc_nl 186) (hl : xst1 lv k (.ref x) = lv2) (h : xEL L xs (pc + 1) lv2 st c q S r) : xEL L xs pc lv (.ref x :: st) c q S r :=
  xL_go hc (let ⟨n, hn⟩ := h; ⟨n, by simp only [xstepL, xstep, xstA, if_pos hk, hl]; exact hn⟩)
theorem xeL_lload {k : Nat} {x : Int64} (hc : xc_code 186 pc = some (.lload k)) (hl : xld lv k = some (.long x)) (h : xEL L xs (pc + 2) lv (.long x :: st) c q S r) : xEL L xs pc lv st c q S r :=
  xL_go hc (let ⟨n, hn⟩ := h; ⟨n, by simp only [xstepL, xstep, xldL, hl]; exact hn⟩)
theorem xeL_lstore {k : Nat} {x : Int64} {lv2 : xL} (hc : xc_code 186 pc = some (.lstore k)) (hk : k + 1 < xc_nl 186) (hl : xst2 lv k (.long x) = lv2) (h : xEL L xs (pc + 2) lv2 st c q S r) : xEL L xs pc lv (.long x :: st) c q S r :=
  xL_go hc (let ⟨n, hn⟩ := h; ⟨n, by simp only [xstepL, xstep, xstL, if_pos hk, hl]; exact hn⟩)
theorem xeL_iinc {k : Nat} {d : Int} {x v : Int32} {lv2 : xL} (hc : xc_code 186 pc = some (.iinc k d)) (hx : xld lv k = some (.int x)) (hk : k < xc_nl 186) (hv : x + Int32.ofInt d = v) (hl : xst1 lv k (.int v) = lv2) (h : xEL L xs (pc + 3) lv2 st c q S r) : xEL L xs pc lv st c q S r := by
  subst hv
  exact xL_go hc (let ⟨n, hn⟩ := h; ⟨n, by simp only [xstepL, xstep, xinc, hx, if_pos hk, hl]; exact hn⟩)
theorem xeL_iadd {a b : Int32} (hc : xc_code 186 pc = some .iadd) (h : xEL L xs (pc + 1) lv (.int (a + b) :: st) c q S r) : xEL L xs pc lv (.int b :: .int a :: st) c q S r := xL_go hc (let ⟨n, hn⟩ := h; ⟨n, hn⟩)
theorem xeL_isub {a b : Int32} (hc : xc_code 186 pc = some .isub) (h : xEL L xs (pc + 1) lv (.int (a - b) :: st) c q S r) : xEL L xs pc lv (.int b :: .int a :: st) c q S r := xL_go hc (let ⟨n, hn⟩ := h; ⟨n, hn⟩)
theorem xeL_iand {a b : Int32} (hc : xc_code 186 pc = some .iand) (h : xEL L xs (pc + 1) lv (.int (a &&& b) :: st) c q S r) : xEL L xs pc lv (.int b :: .int a :: st) c q S r := xL_go hc (let ⟨n, hn⟩ := h; ⟨n, hn⟩)
theorem xeL_i2l {a : Int32} (hc : xc_code 186 pc = some .i2l) (h : xEL L xs (pc + 1) lv (.long a.toInt64 :: st) c q S r) : xEL L xs pc lv (.int a :: st) c q S r := xL_go hc (let ⟨n, hn⟩ := h; ⟨n, hn⟩)
theorem xeL_lcmp {a b : Int64} (hc : xc_code 186 pc = some .lcmp) (h : xEL L xs (pc + 1) lv (.int (lg_cmp a b) :: st) c q S r) : xEL L xs pc lv (.long b :: .long a :: st) c q S r := xL_go hc (let ⟨n, hn⟩ := h; ⟨n, hn⟩)
theorem xeL_dup {a : Value} (hc : xc_code 186 pc = some .dup) (ha : a.category = 1) (h : xEL L xs (pc + 1) lv (a :: a :: st) c q S r) : xEL L xs pc lv (a :: st) c q S r := xL_go hc (let ⟨n, hn⟩ := h; ⟨n, by simp only [xstepL, xstep, xdup, if_pos ha]; exact hn⟩)
theorem xeL_goto {off : Int} {t : Nat} (hc : xc_code 186 pc = some (.goto off)) (ht : (pc : Int) + off = (t : Int)) (h : xEL L xs t lv st c q S r) : xEL L xs pc lv st c q S r :=
  xL_go hc (let ⟨n, hn⟩ := h; ⟨n, by simp only [xstepL, xstep, xtg]; rw [if_neg (by omega), ht]; exact hn⟩)
theorem xeL_if {d : Jvm.ClassFile.Cond} {off : Int} {t : Nat} {a : Int32} (hc : xc_code 186 pc = some (.ifCond d off)) (ht : (pc : Int) + off = (t : Int)) (h1 : xcb d a 0 = true → xEL L xs t lv st c q S r) (h2 : xcb d a 0 = false → xEL L xs (pc + 3) lv st c q S r) : xEL L xs pc lv (.int a :: st) c q S r := by
  cases hb : xcb d a 0 with
  | true => exact xL_go hc (let ⟨n, hn⟩ := h1 hb; ⟨n, by simp only [xstepL, xstep, xif, hb, if_true]; rw [if_neg (by omega), ht]; exact hn⟩)
  | false => exact xL_go hc (let ⟨n, hn⟩ := h2 hb; ⟨n, by simp only [xstepL, xstep, xif, hb]; rw [if_neg (by omega)]; exact hn⟩)
theorem xeL_ic {d : Jvm.ClassFile.Cond} {off : Int} {t : Nat} {a b : Int32} (hc : xc_code 186 pc = some (.if_icmp d off)) (ht : (pc : Int) + off = (t : Int)) (h1 : xcb d a b = true → xEL L xs t lv st c q S r) (h2 : xcb d a b = false → xEL L xs (pc + 3) lv st c q S r) : xEL L xs pc lv (.int b :: .int a :: st) c q S r := by
  cases hb : xcb d a b with
  | true => exact xL_go hc (let ⟨n, hn⟩ := h1 hb; ⟨n, by simp only [xstepL, xstep, xic, hb, if_true]; rw [if_neg (by omega), ht]; exact hn⟩)
  | false => exact xL_go hc (let ⟨n, hn⟩ := h2 hb; ⟨n, by simp only [xstepL, xstep, xic, hb]; rw [if_neg (by omega)]; exact hn⟩)
theorem xeL_tsw {d lo hi off : Int} {offs : Array Int} {t : Nat} {x : Int32} (hc : xc_code 186 pc = some (.tableswitch d lo hi offs)) (ho : (if x.toInt < lo ∨ hi < x.toInt then some d else offs[(x.toInt - lo).toNat]?) = some off) (ht : (pc : Int) + off = (t : Int)) (h : xEL L xs t lv st c q S r) : xEL L xs pc lv (.int x :: st) c q S r := by
  refine xL_go hc (let ⟨n, hn⟩ := h; ⟨n, ?_⟩)
  simp only [xstepL, xstep, xtsw]
  split at ho
  · next hx =>
    cases ho
    rw [if_pos hx]
    unfold xtg
    rw [if_neg (by omega), ht]; exact hn
  · next hx =>
    rw [if_neg hx, ho]
    simp only [xtg]
    rw [if_neg (by omega), ht]; exact hn
theorem xeL_lald {a n i : Nat} {x : Int32} (hc : xc_code 186 pc = some .laload) (ht : xt S a = some (.inr (1, n))) (hx : x = nI i) (hi : i < n) (hN : n < 2 ^ 31) (h : xEL L xs (pc + 1) lv (.long (xj S a i) :: st) c q S r) : xEL L xs pc lv (.int x :: .ref a :: st) c q S r := by
  subst hx
  refine xL_go hc (let ⟨n, hn⟩ := h; ⟨n, ?_⟩)
  simp only [xstepL, xstep, xlald, ht]
  rw [if_pos trivial, if_neg (nI_in hi hN), nI_clamp (by omega)]; exact hn
theorem xeL_zreturn {v : Int32} (hc : xc_code 186 pc = some .ireturn) (h1 : c ≤ xc_mc 186) (h2 : q ≤ xc_ms 186) (h3 : xc_ret 186 = 2) (hv : v = 0 ∨ v = 1) : xEL L xs pc lv [.int v] c q S (.inr (some (.int v)), S) :=
  xL_go hc ⟨0, by simp only [xstepL, xstep]; rw [if_pos h1, if_pos h2]; simp only [xret]; rw [if_neg (by omega), if_pos h3, if_pos hv]⟩
theorem xpL_iconst {k : Int} {n : Nat} (hc : xc_code 186 pc = some (.iconst k)) (hv : Int32.ofInt k = nI n) (h : xPL L xs (pc + 1) lv (.int (nI n) :: st) c q (S) P) : xPL L xs pc lv (st) c q (S) P := by
  obtain ⟨r, h1, h2⟩ := h
  exact ⟨r, xeL_iconst hc hv h1, h2⟩
theorem xpL_bipush {k : Int} {n : Nat} (hc : xc_code 186 pc = some (.bipush k)) (hv : (Int8.ofInt k).toInt32 = nI n) (h : xPL L xs (pc + 2) lv (.int (nI n) :: st) c q (S) P) : xPL L xs pc lv (st) c q (S) P := by
  obtain ⟨r, h1, h2⟩ := h
  exact ⟨r, xeL_bipush hc hv h1, h2⟩
theorem xpL_iload {k : Nat} {x : Int32} (hc : xc_code 186 pc = some (.iload k)) (hl : xld lv k = some (.int x)) (h : xPL L xs (pc + 2) lv (.int x :: st) c q (S) P) : xPL L xs pc lv (st) c q (S) P := by
  obtain ⟨r, h1, h2⟩ := h
  exact ⟨r, xeL_iload hc hl h1, h2⟩
theorem xpL_aload_n {k : Fin 4} {x : Nat} (hc : xc_code 186 pc = some (.aload_n k)) (hl : xld lv k = some (.ref x)) (h : xPL L xs (pc + 1) lv (.ref x :: st) c q (S) P) : xPL L xs pc lv (st) c q (S) P := by
  obtain ⟨r, h1, h2⟩ := h
  exact ⟨r, xeL_aload_n hc hl h1, h2⟩
theorem xpL_istore {k : Nat} {x : Int32} (hc : xc_code 186 pc = some (.istore k)) (hk : k < xc_nl 186) (h : xPL L xs (pc + 2) (xst1 lv k (.int x)) (st) c q (S) P) : xPL L xs pc lv (.int x :: st) c q (S) P := by
  obtain ⟨r, h1, h2⟩ := h
  exact ⟨r, xeL_istore hc hk rfl h1, h2⟩
theorem xpL_astore_n {k : Fin 4} {x : Nat} (hc : xc_code 186 pc = some (.astore_n k)) (hk : (k : Nat) < xc_nl 186) (h : xPL L xs (pc + 1) (xst1 lv k (.ref x)) (st) c q (S) P) : xPL L xs pc lv (.ref x :: st) c q (S) P := by
  obtain ⟨r, h1, h2⟩ := h
  exact ⟨r, xeL_astore_n hc hk rfl h1, h2⟩
theorem xpL_lload {k : Nat} {x : Int64} (hc : xc_code 186 pc = some (.lload k)) (hl : xld lv k = some (.long x)) (h : xPL L xs (pc + 2) lv (.long x :: st) c q (S) P) : xPL L xs pc lv (st) c q (S) P := by
  obtain ⟨r, h1, h2⟩ := h
  exact ⟨r, xeL_lload hc hl h1, h2⟩
theorem xpL_lstore {k : Nat} {x : Int64} (hc : xc_code 186 pc = some (.lstore k)) (hk : k + 1 < xc_nl 186) (h : xPL L xs (pc + 2) (xst2 lv k (.long x)) (st) c q (S) P) : xPL L xs pc lv (.long x :: st) c q (S) P := by
  obtain ⟨r, h1, h2⟩ := h
  exact ⟨r, xeL_lstore hc hk rfl h1, h2⟩
theorem xpL_iinc {k : Nat} {d : Int} {m n : Nat} (hc : xc_code 186 pc = some (.iinc k d)) (hx : xld lv k = some (.int (nI m))) (hk : k < xc_nl 186) (hv : nI m + Int32.ofInt d = nI n) (h : xPL L xs (pc + 3) (xst1 lv k (.int (nI n))) (st) c q (S) P) : xPL L xs pc lv (st) c q (S) P := by
  obtain ⟨r, h1, h2⟩ := h
  exact ⟨r, xeL_iinc hc hx hk hv rfl h1, h2⟩
theorem xpL_iadd {m n : Nat} (hc : xc_code 186 pc = some .iadd) (h : xPL L xs (pc + 1) lv (.int (nI (m + n)) :: st) c q (S) P) : xPL L xs pc lv (.int (nI n) :: .int (nI m) :: st) c q (S) P := by
  obtain ⟨r, h1, h2⟩ := h
  exact ⟨r, xeL_iadd hc (by rw [nI_add]; exact h1), h2⟩
theorem xpL_isub {m n : Nat} (hc : xc_code 186 pc = some .isub) (hs : n ≤ m) (h : xPL L xs (pc + 1) lv (.int (nI (m - n)) :: st) c q (S) P) : xPL L xs pc lv (.int (nI n) :: .int (nI m) :: st) c q (S) P := by
  obtain ⟨r, h1, h2⟩ := h
  exact ⟨r, xeL_isub hc (by rw [nI_sub hs]; exact h1), h2⟩
theorem xpL_isubR {a b : Int32} (hc : xc_code 186 pc = some .isub) (h : xPL L xs (pc + 1) lv (.int (a - b) :: st) c q (S) P) : xPL L xs pc lv (.int b :: .int a :: st) c q (S) P := by
  obtain ⟨r, h1, h2⟩ := h
  exact ⟨r, xeL_isub hc h1, h2⟩
theorem xpL_iand {a b : Int32} (hc : xc_code 186 pc = some .iand) (h : xPL L xs (pc + 1) lv (.int (a &&& b) :: st) c q (S) P) : xPL L xs pc lv (.int b :: .int a :: st) c q (S) P := by
  obtain ⟨r, h1, h2⟩ := h
  exact ⟨r, xeL_iand hc h1, h2⟩
theorem xpL_i2l {a : Int32} (hc : xc_code 186 pc = some .i2l) (h : xPL L xs (pc + 1) lv (.long a.toInt64 :: st) c q (S) P) : xPL L xs pc lv (.int a :: st) c q (S) P := by
  obtain ⟨r, h1, h2⟩ := h
  exact ⟨r, xeL_i2l hc h1, h2⟩
theorem xpL_dup {a : Value} (hc : xc_code 186 pc = some .dup) (ha : a.category = 1) (h : xPL L xs (pc + 1) lv (a :: a :: st) c q (S) P) : xPL L xs pc lv (a :: st) c q (S) P := by
  obtain ⟨r, h1, h2⟩ := h
  exact ⟨r, xeL_dup hc ha h1, h2⟩
theorem xpL_goto {off : Int} (t : Nat) (hc : xc_code 186 pc = some (.goto off)) (ht : (pc : Int) + off = (t : Int)) (h : xPL L xs t lv st c q S P) : xPL L xs pc lv st c q S P := by
  obtain ⟨r, h1, h2⟩ := h
  exact ⟨r, xeL_goto hc ht h1, h2⟩
theorem xpL_ifeq {off : Int} {n : Nat} (t : Nat) (hc : xc_code 186 pc = some (.ifCond .eq off)) (ht : (pc : Int) + off = (t : Int)) (hn : n < 2 ^ 32) (h1 : n = 0 → xPL L xs t lv st c q S P) (h2 : ¬ n = 0 → xPL L xs (pc + 3) lv st c q S P) : xPL L xs pc lv (.int (nI n) :: st) c q S P := by
  by_cases hb : n = 0
  · obtain ⟨r, k1, k2⟩ := h1 hb
    exact ⟨r, xeL_if hc ht (fun _ => k1) (fun hf => (Bool.false_ne_true (hf.symm.trans (decide_eq_true ((nI_eq0 hn).mpr hb) : xcb .eq (nI n) 0 = true))).elim), k2⟩
  · obtain ⟨r, k1, k2⟩ := h2 hb
    exact ⟨r, xeL_if hc ht (fun hf => absurd hf (by rw [Bool.not_eq_true]; exact decide_eq_false (fun z => hb ((nI_eq0 hn).mp z)))) (fun _ => k1), k2⟩
theorem xpL_ifne {off : Int} {n : Nat} (t : Nat) (hc : xc_code 186 pc = some (.ifCond .ne off)) (ht : (pc : Int) + off = (t : Int)) (hn : n < 2 ^ 32) (h1 : ¬ n = 0 → xPL L xs t lv st c q S P) (h2 : n = 0 → xPL L xs (pc + 3) lv st c q S P) : xPL L xs pc lv (.int (nI n) :: st) c q S P := by
  by_cases hb : ¬ n = 0
  · obtain ⟨r, k1, k2⟩ := h1 hb
    exact ⟨r, xeL_if hc ht (fun _ => k1) (fun hf => (Bool.false_ne_true (hf.symm.trans (decide_eq_true ((not_congr (nI_eq0 hn)).mpr hb) : xcb .ne (nI n) 0 = true))).elim), k2⟩
  · obtain ⟨r, k1, k2⟩ := h2 (Classical.not_not.mp hb)
    exact ⟨r, xeL_if hc ht (fun hf => absurd hf (by rw [Bool.not_eq_true]; exact decide_eq_false (fun z => hb ((not_congr (nI_eq0 hn)).mp z)))) (fun _ => k1), k2⟩
theorem xpL_iceq {off : Int} {m n : Nat} (t : Nat) (hc : xc_code 186 pc = some (.if_icmp .eq off)) (ht : (pc : Int) + off = (t : Int)) (hm : m < 2 ^ 32) (hn : n < 2 ^ 32) (h1 : m = n → xPL L xs t lv st c q S P) (h2 : ¬ m = n → xPL L xs (pc + 3) lv st c q S P) : xPL L xs pc lv (.int (nI n) :: .int (nI m) :: st) c q S P := by
  by_cases hb : m = n
  · obtain ⟨r, k1, k2⟩ := h1 hb
    exact ⟨r, xeL_ic hc ht (fun _ => k1) (fun hf => (Bool.false_ne_true (hf.symm.trans (decide_eq_true ((nI_eq32 hm hn).mpr hb) : xcb .eq (nI m) (nI n) = true))).elim), k2⟩
  · obtain ⟨r, k1, k2⟩ := h2 hb
    exact ⟨r, xeL_ic hc ht (fun hf => absurd hf (by rw [Bool.not_eq_true]; exact decide_eq_false (fun z => hb ((nI_eq32 hm hn).mp z)))) (fun _ => k1), k2⟩
theorem xpL_icgt {off : Int} {m n : Nat} (t : Nat) (hc : xc_code 186 pc = some (.if_icmp .gt off)) (ht : (pc : Int) + off = (t : Int)) (hm : m < 2 ^ 31) (hn : n < 2 ^ 31) (h1 : n < m → xPL L xs t lv st c q S P) (h2 : m ≤ n → xPL L xs (pc + 3) lv st c q S P) : xPL L xs pc lv (.int (nI n) :: .int (nI m) :: st) c q S P := by
  by_cases hb : n < m
  · obtain ⟨r, k1, k2⟩ := h1 hb
    exact ⟨r, xeL_ic hc ht (fun _ => k1) (fun hf => (Bool.false_ne_true (hf.symm.trans (decide_eq_true ((nI_ltI hn hm).mpr hb) : xcb .gt (nI m) (nI n) = true))).elim), k2⟩
  · obtain ⟨r, k1, k2⟩ := h2 (by omega)
    exact ⟨r, xeL_ic hc ht (fun hf => absurd hf (by rw [Bool.not_eq_true]; exact decide_eq_false (fun z => hb ((nI_ltI hn hm).mp z)))) (fun _ => k1), k2⟩
theorem xpL_lceq {a b : Int64} {off : Int} (t : Nat) (hc : xc_code 186 pc = some .lcmp) (hc2 : xc_code 186 (pc + 1) = some (.ifCond .eq off)) (ht : ((pc + 1 : Nat) : Int) + off = (t : Int)) (h1 : a = b → xPL L xs t lv st c q S P) (h2 : ¬ a = b → xPL L xs (pc + 1 + 3) lv st c q S P) : xPL L xs pc lv (.long b :: .long a :: st) c q S P := by
  by_cases hb : a = b
  · obtain ⟨r, k1, k2⟩ := h1 hb
    exact ⟨r, xeL_lcmp hc (xeL_if hc2 ht (fun _ => k1) (fun hf => (Bool.false_ne_true (hf.symm.trans (decide_eq_true ((lg_cmp0 a b).mpr hb) : xcb .eq (lg_cmp a b) 0 = true))).elim)), k2⟩
  · obtain ⟨r, k1, k2⟩ := h2 hb
    exact ⟨r, xeL_lcmp hc (xeL_if hc2 ht (fun hf => absurd hf (by rw [Bool.not_eq_true]; exact decide_eq_false (fun z => hb ((lg_cmp0 a b).mp z)))) (fun _ => k1)), k2⟩
theorem xpL_tsw {d lo hi off : Int} {offs : Array Int} {n : Nat} (t : Nat) (hc : xc_code 186 pc = some (.tableswitch d lo hi offs)) (hn : n < 2 ^ 31) (ho : (if (n : Int) < lo ∨ hi < (n : Int) then some d else offs[((n : Int) - lo).toNat]?) = some off) (ht : (pc : Int) + off = (t : Int)) (h : xPL L xs t lv st c q S P) : xPL L xs pc lv (.int (nI n) :: st) c q S P := by
  obtain ⟨r, h1, h2⟩ := h
  exact ⟨r, xeL_tsw hc (by rw [nI_toInt hn]; exact ho) ht h1, h2⟩
theorem xpL_lald {a n i : Nat} (hc : xc_code 186 pc = some .laload) (ht : T a = some (.inr (1, n))) (hi : i < n) (hN : n < 2 ^ 31) (h : xPL L xs (pc + 1) lv (.long (A.2 a i) :: st) c q (xm z T R A) P) : xPL L xs pc lv (.int (nI i) :: .ref a :: st) c q (xm z T R A) P := by
  obtain ⟨r, h1, h2⟩ := h
  exact ⟨r, xeL_lald hc ht rfl hi hN h1, h2⟩
theorem xpL_zreturn {n : Nat} (hc : xc_code 186 pc = some .ireturn) (h1 : c ≤ xc_mc 186) (h2 : q ≤ xc_ms 186) (h3 : xc_ret 186 = 2) (hv : n = 0 ∨ n = 1) (h : P (.inr (some (.int (nI n))), S)) : xPL L xs pc lv [.int (nI n)] c q S P := ⟨_, xeL_zreturn hc h1 h2 h3 (by rcases hv with rfl | rfl <;> decide), h⟩
theorem xpL_icgtS {off : Int} {m n : Nat} (t : Nat) (hc : xc_code 186 pc = some (.if_icmp .gt off)) (ht : (pc : Int) + off = (t : Int)) (hm : m < 2 ^ 32) (hn : n < 2 ^ 32) (h1 : sg n < sg m → xPL L xs t lv st c q S P) (h2 : sg m ≤ sg n → xPL L xs (pc + 3) lv st c q S P) : xPL L xs pc lv (.int (nI n) :: .int (nI m) :: st) c q S P := by
  by_cases hb : sg n < sg m
  · obtain ⟨r, k1, k2⟩ := h1 hb
    exact ⟨r, xeL_ic hc ht (fun _ => k1) (fun hf => (Bool.false_ne_true (hf.symm.trans (decide_eq_true ((nI_ltS hn hm).mpr hb) : xcb .gt (nI m) (nI n) = true))).elim), k2⟩
  · obtain ⟨r, k1, k2⟩ := h2 (by omega)
    exact ⟨r, xeL_ic hc ht (fun hf => absurd hf (by rw [Bool.not_eq_true]; exact decide_eq_false (fun z => hb ((nI_ltS hn hm).mp z)))) (fun _ => k1), k2⟩
theorem xeL_iv {x y2 na : Nat} {as : List Value} {v : Option Value} {S1 : xS} (hc : xc_code 186 pc = some (.invokevirtual x)) (ho : xc_vrt (xc_own 186) x = some (y2, na)) (ha : (st.take na).reverse = as) (hl : na ≤ st.length) (hv : xc_lev y2 < xc_lev 186) (h1 : c + xc_mc y2 ≤ xc_mc 186) (h2 : q + xc_ms y2 ≤ xc_ms 186) (h3 : ((st.drop na).map fun v => v.category).sum ≤ 8) (h4 : xrcv y2 S as = true) (hF : xF y2 as S (.inr v, S1)) {st2 : List Value} (hst : v.toList ++ st.drop na = st2) (h : xEL L xs (pc + 3) lv st2 (c + xc_mc y2) (q + xc_ms y2) S1 r) : xEL L xs pc lv st c q S r := by
  obtain ⟨n1, e1⟩ := hF
  obtain ⟨n2, e2⟩ := h
  subst ha hst
  refine xL_go hc ⟨n1 + n2, ?_⟩
  have e3 := xmeth_mono (k := n1 + n2) (by omega) e1
  have e4 := xlev_mono (k := n1 + n2) (by omega) e2
  simp only [xstepL, xstep, xcl, ho, if_pos hl, if_pos hv, if_pos h1, if_pos h2, if_pos h3, if_pos h4, e3]
  exact e4
theorem xpL_iv {x y2 na : Nat} {as : List Value} {v : Option Value} {S1 : xS} {st2 : List Value} (hc : xc_code 186 pc = some (.invokevirtual x)) (ho : xc_vrt (xc_own 186) x = some (y2, na)) (hl : na ≤ st.length) (hv : xc_lev y2 < xc_lev 186) (hm1 : c + xc_mc y2 ≤ xc_mc 186) (hm2 : q + xc_ms y2 ≤ xc_ms 186) (h3 : ((st.drop na).map fun v => v.category).sum ≤ 8) (ha : (st.take na).reverse = as) (h4 : xrcv y2 S as = true) (hF : xF y2 as S (.inr v, S1)) (hst : v.toList ++ st.drop na = st2) (h : xPL L xs (pc + 3) lv st2 (c + xc_mc y2) (q + xc_ms y2) S1 P) : xPL L xs pc lv st c q S P := by
  obtain ⟨r, k1, k2⟩ := h
  exact ⟨r, xeL_iv hc ho ha hl hv hm1 hm2 h3 h4 hF hst k1, k2⟩
theorem xpL_w {x y2 na : Nat} {as : List Value} {v : Option Value} {S1 : xS} {st2 : List Value} (hc : xc_code 186 pc = some (.invokestatic x)) (ho : xc_stw x = some (y2, na)) (hl : na ≤ st.length) (hv : xc_lev y2 < xc_lev 186) (hm1 : c + xc_mc y2 ≤ xc_mc 186) (hm2 : q + xc_ms y2 ≤ xc_ms 186) (h3 : ((st.drop na).map fun v => v.category).sum ≤ 8) (ha : (st.take na).reverse = as) (hF : xF y2 as S (.inr v, S1)) (hst : v.toList ++ st.drop na = st2) (h : xPL L xs (pc + 3) lv st2 (c + xc_mc y2) (q + xc_ms y2) S1 P) : xPL L xs pc lv st c q S P := by
  obtain ⟨r, ⟨n2, e2⟩, k2⟩ := h
  obtain ⟨n1, e1⟩ := hF
  subst ha hst
  refine ⟨r, xL_go hc ⟨n1 + n2, ?_⟩, k2⟩
  have e3 := xmeth_mono (k := n1 + n2) (by omega) e1
  have e4 := xlev_mono (k := n1 + n2) (by omega) e2
  simp only [xstepL, xclW, ho, if_pos hl, if_pos hv, if_pos hm1, if_pos hm2, if_pos h3, e3]
  exact e4
theorem xpL_sp {x y2 na : Nat} {as : List Value} {v : Option Value} {S1 : xS} {st2 : List Value} (hc : xc_code 186 pc = some (.invokespecial x)) (hob : xc_obj (xc_own 186) x = false) (ho : xc_spc (xc_own 186) x = some (y2, na)) (hl : na ≤ st.length) (hv : xc_lev y2 < xc_lev 186) (hm1 : c + xc_mc y2 ≤ xc_mc 186) (hm2 : q + xc_ms y2 ≤ xc_ms 186) (h3 : ((st.drop na).map fun v => v.category).sum ≤ 8) (ha : (st.take na).reverse = as) (h4 : xrcv y2 S as = true) (hF : xF y2 as S (.inr v, S1)) (hst : v.toList ++ st.drop na = st2) (h : xPL L xs (pc + 3) lv st2 (c + xc_mc y2) (q + xc_ms y2) S1 P) : xPL L xs pc lv st c q S P := by
  obtain ⟨r, ⟨n2, e2⟩, k2⟩ := h
  obtain ⟨n1, e1⟩ := hF
  subst ha hst
  refine ⟨r, xL_go hc ⟨n1 + n2, ?_⟩, k2⟩
  have e3 := xmeth_mono (k := n1 + n2) (by omega) e1
  have e4 := xlev_mono (k := n1 + n2) (by omega) e2
  have hob2 : ¬ xc_obj (xc_own 186) x = true := by rw [hob]; exact Bool.false_ne_true
  simp only [xstepL, xstep, xcl, ho, if_neg hob2, if_pos hl, if_pos hv, if_pos hm1, if_pos hm2, if_pos h3, if_pos h4, e3]
  exact e4
theorem xpL_newo {x ci : Nat} (hc : xc_code 186 pc = some (.new x)) (he : xc_exc (xc_own 186) x = none) (hn : xc_new (xc_own 186) x = some ci) (h1 : c + 1 ≤ xc_mc 186) (h2 : q + (xc_fk ci).length ≤ xc_ms 186) (hz : xz S < 1000000) (h : xPL L xs (pc + 3) lv (.ref (xz S) :: st) (c + 1) (q + (xc_fk ci).length) (xnew S (.inl ci)) P) : xPL L xs pc lv st c q S P := by
  obtain ⟨r, ⟨n, hn2⟩, k2⟩ := h
  refine ⟨r, xL_go hc ⟨n, ?_⟩, k2⟩
  simp only [xstepL, xstep, if_pos he, xnewo, hn, if_pos h1, if_pos h2, if_pos hz]
  exact hn2
theorem xpL_newl (hc : xc_code 186 pc = some (.newarray .long)) (h1 : c + 1 ≤ xc_mc 186) (h2 : q + 1 ≤ xc_ms 186) (hz : xz S < 1000000) (h : xPL L xs (pc + 2) lv (.ref (xz S) :: st) (c + 1) (q + 1) (xnew S (.inr (1, 1))) P) : xPL L xs pc lv (.int (nI 1) :: st) c q S P := by
  obtain ⟨r, ⟨n, hn2⟩, k2⟩ := h
  refine ⟨r, xL_go hc ⟨n, ?_⟩, k2⟩
  simp only [xstepL, xstep, xnewa]
  rw [if_neg (by decide), show (nI 1).toNatClampNeg = 1 from by decide, if_neg (by decide), if_pos h1, if_pos h2, if_pos hz]
  exact hn2
theorem xpL_ld {j : Nat} (hc : xc_code 186 pc = some .iaload) (hj : j < L) (hL : L < 2 ^ 31) (h : xPL L xs (pc + 1) lv (.int (xs j) :: st) c q S P) : xPL L xs pc lv (.int (nI j) :: .ref 1000003 :: st) c q S P := by
  obtain ⟨r, ⟨n, hn2⟩, k2⟩ := h
  refine ⟨r, xL_go hc ⟨n, ?_⟩, k2⟩
  simp only [xstepL, xsld]
  rw [if_pos trivial, if_neg (nI_in hj hL), nI_clamp (by omega)]
  exact hn2
theorem xpL_ln (hc : xc_code 186 pc = some .arraylength) (h : xPL L xs (pc + 1) lv (.int (nI L) :: st) c q S P) : xPL L xs pc lv (.ref 1000003 :: st) c q S P := by
  obtain ⟨r, ⟨n, hn2⟩, k2⟩ := h
  refine ⟨r, xL_go hc ⟨n, ?_⟩, k2⟩
  simp only [xstepL, xsln]
  rw [if_pos trivial]
  exact hn2
end LR
theorem nI_and15 (a : Nat) : nI a &&& nI 15 = nI (a % 16) := by
  apply Int32.toBitVec.inj
  apply BitVec.eq_of_toNat_eq
  unfold nI
  rw [Int32.toBitVec_and, Int32.toBitVec_ofNat', Int32.toBitVec_ofNat', Int32.toBitVec_ofNat', BitVec.toNat_and]
  simp only [BitVec.toNat_ofNat]
  rw [show (15 % 2 ^ 32 : Nat) = 2 ^ 4 - 1 from rfl, Nat.and_two_pow_sub_one_eq_mod]
  omega
