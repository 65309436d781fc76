-- THE EVALUATOR WITHOUT FUEL: one rule an instruction
/-- from this point it comes to r -/
def xE (y pc : Nat) (lv : xL) (st : List Value) (c q : Nat) (S : xS) (r : xR) : Prop := ∃ n, xev n y pc lv st c q S = some r
/-- method y on these values and this memory comes to r -/
def xF (y : Nat) (as : List Value) (S : xS) (r : xR) : Prop := ∃ n, xmeth n y as S = some r
section PR
variable {y pc : Nat} {lv : xL} {st : List Value} {c q : Nat} {S : xS} {r : xR}
theorem xF_of {as : List Value} (hl : (lg_sl as).length ≤ xc_nl y) (h : xE y 0 (lv_args 0 as) [] 0 0 S r) : xF y as S r := by
  obtain ⟨n, hn⟩ := h
  exact ⟨n, by unfold xmeth; rw [if_pos hl]; exact hn⟩
theorem xE_go {i : Instr} (hc : xc_code y pc = some i) (h : ∃ n, xstep (xev n y) (fun y2 as S2 => if (lg_sl as).length ≤ xc_nl y2 then xev n y2 0 (lv_args 0 as) [] 0 0 S2 else none) y pc i lv st c q S = some r) : xE y pc lv st c q S r := by
  obtain ⟨n, hn⟩ := h
  exact ⟨n + 1, by unfold xev; rw [hc]; exact hn⟩
theorem xe_iconst {k : Int} {v : Int32} (hc : xc_code y pc = some (.iconst k)) (hv : Int32.ofInt k = v) (h : xE y (pc + 1) lv (.int v :: st) c q S r) : xE y pc lv st c q S r := by
  subst hv; exact xE_go hc (let ⟨n, hn⟩ := h; ⟨n, hn⟩)
theorem xe_bipush {k : Int} {v : Int32} (hc : xc_code y pc = some (.bipush k)) (hv : (Int8.ofInt k).toInt32 = v) (h : xE y (pc + 2) lv (.int v :: st) c q S r) : xE y pc lv st c q S r := by
  subst hv; exact xE_go hc (let ⟨n, hn⟩ := h; ⟨n, hn⟩)
theorem xe_sipush {k : Int} {v : Int32} (hc : xc_code y pc = some (.sipush k)) (hv : (Int16.ofInt k).toInt32 = v) (h : xE y (pc + 3) lv (.int v :: st) c q S r) : xE y pc lv st c q S r := by
  subst hv; exact xE_go hc (let ⟨n, hn⟩ := h; ⟨n, hn⟩)
theorem xe_lconst {k : Fin 2} {v : Int64} (hc : xc_code y pc = some (.lconst k)) (hv : Int64.ofNat (k : Nat) = v) (h : xE y (pc + 1) lv (.long v :: st) c q S r) : xE y pc lv st c q S r := by
  subst hv; exact xE_go hc (let ⟨n, hn⟩ := h; ⟨n, hn⟩)
theorem xe_ldc2 {k : Nat} {v : Int64} (hc : xc_code y pc = some (.ldc2_w k)) (hv : xc_long (xc_own y) k = some v) (h : xE y (pc + 3) lv (.long v :: st) c q S r) : xE y pc lv st c q S r :=
  xE_go hc (let ⟨n, hn⟩ := h; ⟨n, by simp only [xstep, xlc2, hv]; exact hn⟩)
theorem xe_iload_n {k : Fin 4} {x : Int32} (hc : xc_code y pc = some (.iload_n k)) (hl : xld lv k = some (.int x)) (h : xE y (pc + 1) lv (.int x :: st) c q S r) : xE y pc lv st c q S r :=
  xE_go hc (let ⟨n, hn⟩ := h; ⟨n, by simp only [xstep, xldI, hl]; exact hn⟩)
theorem xe_iload {k : Nat} {x : Int32} (hc : xc_code y pc = some (.iload k)) (hl : xld lv k = some (.int x)) (h : xE y (pc + 2) lv (.int x :: st) c q S r) : xE y pc lv st c q S r :=
  xE_go hc (let ⟨n, hn⟩ := h; ⟨n, by simp only [xstep, xldI, hl]; exact hn⟩)
theorem xe_lload_n {k : Fin 4} {x : Int64} (hc : xc_code y pc = some (.lload_n k)) (hl : xld lv k = some (.long x)) (h : xE y (pc + 1) lv (.long x :: st) c q S r) : xE y pc lv st c q S r :=
  xE_go hc (let ⟨n, hn⟩ := h; ⟨n, by simp only [xstep, xldL, hl]; exact hn⟩)
theorem xe_lload {k : Nat} {x : Int64} (hc : xc_code y pc = some (.lload k)) (hl : xld lv k = some (.long x)) (h : xE y (pc + 2) lv (.long x :: st) c q S r) : xE y pc lv st c q S r :=
  xE_go hc (let ⟨n, hn⟩ := h; ⟨n, by simp only [xstep, xldL, hl]; exact hn⟩)
theorem xe_aload_n {k : Fin 4} {x : Nat} (hc : xc_code y pc = some (.aload_n k)) (hl : xld lv k = some (.ref x)) (h : xE y (pc + 1) lv (.ref x :: st) c q S r) : xE y pc lv st c q S r :=
  xE_go hc (let ⟨n, hn⟩ := h; ⟨n, by simp only [xstep, xldA, hl]; exact hn⟩)
theorem xe_aload {k : Nat} {x : Nat} (hc : xc_code y pc = some (.aload k)) (hl : xld lv k = some (.ref x)) (h : xE y (pc + 2) lv (.ref x :: st) c q S r) : xE y pc lv st c q S r :=
  xE_go hc (let ⟨n, hn⟩ := h; ⟨n, by simp only [xstep, xldA, hl]; exact hn⟩)
theorem xe_istore_n {k : Fin 4} {x : Int32} {lv2 : xL} (hc : xc_code y pc = some (.istore_n k)) (hk : (k : Nat) < xc_nl y) (hl : xst1 lv k (.int x) = lv2) (h : xE y (pc + 1) lv2 st c q S r) : xE y pc lv (.int x :: st) c q S r :=
  xE_go hc (let ⟨n, hn⟩ := h; ⟨n, by simp only [xstep, xstI, if_pos hk, hl]; exact hn⟩)
theorem xe_istore {k : Nat} {x : Int32} {lv2 : xL} (hc : xc_code y pc = some (.istore k)) (hk : k < xc_nl y) (hl : xst1 lv k (.int x) = lv2) (h : xE y (pc + 2) lv2 st c q S r) : xE y pc lv (.int x :: st) c q S r :=
  xE_go hc (let ⟨n, hn⟩ := h; ⟨n, by simp only [xstep, xstI, if_pos hk, hl]; exact hn⟩)
theorem xe_lstore_n {k : Fin 4} {x : Int64} {lv2 : xL} (hc : xc_code y pc = some (.lstore_n k)) (hk : (k : Nat) + 1 < xc_nl y) (hl : xst2 lv k (.long x) = lv2) (h : xE y (pc + 1) lv2 st c q S r) : xE y pc lv (.long x :: st) c q S r :=
  xE_go hc (let ⟨n, hn⟩ := h; ⟨n, by simp only [xstep, xstL, if_pos hk, hl]; exact hn⟩)
theorem xe_lstore {k : Nat} {x : Int64} {lv2 : xL} (hc : xc_code y pc = some (.lstore k)) (hk : k + 1 < xc_nl y) (hl : xst2 lv k (.long x) = lv2) (h : xE y (pc + 2) lv2 st c q S r) : xE y pc lv (.long x :: st) c q S r :=
  xE_go hc (let ⟨n, hn⟩ := h; ⟨n, by simp only [xstep, xstL, if_pos hk, hl]; exact hn⟩)
theorem xe_astore_n {k : Fin 4} {x : Nat} {lv2 : xL} (hc : xc_code y pc = some (.astore_n k)) (hk : (k : Nat) < xc_nl y) (hl : xst1 lv k (.ref x) = lv2) (h : xE y (pc + 1) lv2 st c q S r) : xE y pc lv (.ref x :: st) c q S r :=
  xE_go hc (let ⟨n, hn⟩ := h; ⟨n, by simp only [xstep, xstA, if_pos hk, hl]; exact hn⟩)
theorem xe_astore {k : Nat} {x : Nat} {lv2 : xL} (hc : xc_code y pc = some (.astore k)) (hk : k < xc_nl y) (hl : xst1 lv k (.ref x) = lv2) (h : xE y (pc + 2) lv2 st c q S r) : xE y pc lv (.ref x :: st) c q S r :=
  xE_go hc (let ⟨n, hn⟩ := h; ⟨n, by simp only [xstep, xstA, if_pos hk, hl]; exact hn⟩)
theorem xe_iinc {k : Nat} {d : Int} {x v : Int32} {lv2 : xL} (hc : xc_code y pc = some (.iinc k d)) (hx : xld lv k = some (.int x)) (hk : k < xc_nl y) (hv : x + Int32.ofInt d = v) (hl : xst1 lv k (.int v) = lv2) (h : xE y (pc + 3) lv2 st c q S r) : xE y pc lv st c q S r := by
  subst hv
  exact xE_go hc (let ⟨n, hn⟩ := h; ⟨n, by simp only [xstep, xinc, hx, if_pos hk, hl]; exact hn⟩)
theorem xe_iadd {a b : Int32} (hc : xc_code y pc = some .iadd) (h : xE y (pc + 1) lv (.int (a + b) :: st) c q S r) : xE y pc lv (.int b :: .int a :: st) c q S r := xE_go hc (let ⟨n, hn⟩ := h; ⟨n, hn⟩)
theorem xe_isub {a b : Int32} (hc : xc_code y pc = some .isub) (h : xE y (pc + 1) lv (.int (a - b) :: st) c q S r) : xE y pc lv (.int b :: .int a :: st) c q S r := xE_go hc (let ⟨n, hn⟩ := h; ⟨n, hn⟩)
theorem xe_imul {a b : Int32} (hc : xc_code y pc = some .imul) (h : xE y (pc + 1) lv (.int (a * b) :: st) c q S r) : xE y pc lv (.int b :: .int a :: st) c q S r := xE_go hc (let ⟨n, hn⟩ := h; ⟨n, hn⟩)
theorem xe_iand {a b : Int32} (hc : xc_code y pc = some .iand) (h : xE y (pc + 1) lv (.int (a &&& b) :: st) c q S r) : xE y pc lv (.int b :: .int a :: st) c q S r := xE_go hc (let ⟨n, hn⟩ := h; ⟨n, hn⟩)
theorem xe_idiv {a b : Int32} (hc : xc_code y pc = some .idiv) (hb : ¬ b = 0) (h : xE y (pc + 1) lv (.int (a / b) :: st) c q S r) : xE y pc lv (.int b :: .int a :: st) c q S r := xE_go hc (let ⟨n, hn⟩ := h; ⟨n, by simp only [xstep, xbD, if_neg hb]; exact hn⟩)
theorem xe_irem {a b : Int32} (hc : xc_code y pc = some .irem) (hb : ¬ b = 0) (h : xE y (pc + 1) lv (.int (a - a / b * b) :: st) c q S r) : xE y pc lv (.int b :: .int a :: st) c q S r := xE_go hc (let ⟨n, hn⟩ := h; ⟨n, by simp only [xstep, xbD, if_neg hb]; exact hn⟩)
theorem xe_ladd {a b : Int64} (hc : xc_code y pc = some .ladd) (h : xE y (pc + 1) lv (.long (a + b) :: st) c q S r) : xE y pc lv (.long b :: .long a :: st) c q S r := xE_go hc (let ⟨n, hn⟩ := h; ⟨n, hn⟩)
theorem xe_lsub {a b : Int64} (hc : xc_code y pc = some .lsub) (h : xE y (pc + 1) lv (.long (a - b) :: st) c q S r) : xE y pc lv (.long b :: .long a :: st) c q S r := xE_go hc (let ⟨n, hn⟩ := h; ⟨n, hn⟩)
theorem xe_lmul {a b : Int64} (hc : xc_code y pc = some .lmul) (h : xE y (pc + 1) lv (.long (a * b) :: st) c q S r) : xE y pc lv (.long b :: .long a :: st) c q S r := xE_go hc (let ⟨n, hn⟩ := h; ⟨n, hn⟩)
theorem xe_land {a b : Int64} (hc : xc_code y pc = some .land) (h : xE y (pc + 1) lv (.long (a &&& b) :: st) c q S r) : xE y pc lv (.long b :: .long a :: st) c q S r := xE_go hc (let ⟨n, hn⟩ := h; ⟨n, hn⟩)
theorem xe_lor {a b : Int64} (hc : xc_code y pc = some .lor) (h : xE y (pc + 1) lv (.long (a ||| b) :: st) c q S r) : xE y pc lv (.long b :: .long a :: st) c q S r := xE_go hc (let ⟨n, hn⟩ := h; ⟨n, hn⟩)
theorem xe_ldiv {a b : Int64} (hc : xc_code y pc = some .ldiv) (hb : ¬ b = 0) (h : xE y (pc + 1) lv (.long (a / b) :: st) c q S r) : xE y pc lv (.long b :: .long a :: st) c q S r := xE_go hc (let ⟨n, hn⟩ := h; ⟨n, by simp only [xstep, xbE, if_neg hb]; exact hn⟩)
theorem xe_lshl {a : Int64} {b : Int32} (hc : xc_code y pc = some .lshl) (h : xE y (pc + 1) lv (.long (a <<< (b.toInt64 &&& 63)) :: st) c q S r) : xE y pc lv (.int b :: .long a :: st) c q S r := xE_go hc (let ⟨n, hn⟩ := h; ⟨n, hn⟩)
theorem xe_lshr {a : Int64} {b : Int32} (hc : xc_code y pc = some .lshr) (h : xE y (pc + 1) lv (.long (a >>> (b.toInt64 &&& 63)) :: st) c q S r) : xE y pc lv (.int b :: .long a :: st) c q S r := xE_go hc (let ⟨n, hn⟩ := h; ⟨n, hn⟩)
theorem xe_lcmp {a b : Int64} (hc : xc_code y pc = some .lcmp) (h : xE y (pc + 1) lv (.int (lg_cmp a b) :: st) c q S r) : xE y pc lv (.long b :: .long a :: st) c q S r := xE_go hc (let ⟨n, hn⟩ := h; ⟨n, hn⟩)
theorem xe_i2l {a : Int32} (hc : xc_code y pc = some .i2l) (h : xE y (pc + 1) lv (.long a.toInt64 :: st) c q S r) : xE y pc lv (.int a :: st) c q S r := xE_go hc (let ⟨n, hn⟩ := h; ⟨n, hn⟩)
theorem xe_l2i {a : Int64} (hc : xc_code y pc = some .l2i) (h : xE y (pc + 1) lv (.int a.toInt32 :: st) c q S r) : xE y pc lv (.long a :: st) c q S r := xE_go hc (let ⟨n, hn⟩ := h; ⟨n, hn⟩)
theorem xe_dup {a : Value} (hc : xc_code y pc = some .dup) (ha : a.category = 1) (h : xE y (pc + 1) lv (a :: a :: st) c q S r) : xE y pc lv (a :: st) c q S r := xE_go hc (let ⟨n, hn⟩ := h; ⟨n, by simp only [xstep, xdup, if_pos ha]; exact hn⟩)
theorem xe_dup2 {a b : Value} (hc : xc_code y pc = some .dup2) (ha : a.category = 1) (hb : b.category = 1) (h : xE y (pc + 1) lv (a :: b :: a :: b :: st) c q S r) : xE y pc lv (a :: b :: st) c q S r := xE_go hc (let ⟨n, hn⟩ := h; ⟨n, by simp only [xstep, xdup2, if_pos ha, if_pos hb]; exact hn⟩)
theorem xe_pop {a : Value} (hc : xc_code y pc = some .pop) (ha : a.category = 1) (h : xE y (pc + 1) lv st c q S r) : xE y pc lv (a :: st) c q S r := xE_go hc (let ⟨n, hn⟩ := h; ⟨n, by simp only [xstep, xpop, if_pos ha]; exact hn⟩)
theorem xe_goto {off : Int} {t : Nat} (hc : xc_code y pc = some (.goto off)) (ht : (pc : Int) + off = (t : Int)) (h : xE y t lv st c q S r) : xE y pc lv st c q S r :=
  xE_go hc (let ⟨n, hn⟩ := h; ⟨n, by simp only [xstep, xtg]; rw [if_neg (by omega), ht]; exact hn⟩)
/-- a branch by its condition -/
theorem xe_if {d : Jvm.ClassFile.Cond} {off : Int} {t : Nat} {a : Int32} (hc : xc_code y pc = some (.ifCond d off)) (ht : (pc : Int) + off = (t : Int)) (h1 : xcb d a 0 = true → xE y t lv st c q S r) (h2 : xcb d a 0 = false → xE y (pc + 3) lv st c q S r) : xE y pc lv (.int a :: st) c q S r := by
  cases hb : xcb d a 0 with
  | true => exact xE_go hc (let ⟨n, hn⟩ := h1 hb; ⟨n, by simp only [xstep, xif, hb, if_true]; rw [if_neg (by omega), ht]; exact hn⟩)
  | false => exact xE_go hc (let ⟨n, hn⟩ := h2 hb; ⟨n, by simp only [xstep, xif, hb]; rw [if_neg (by omega)]; exact hn⟩)
theorem xe_ic {d : Jvm.ClassFile.Cond} {off : Int} {t : Nat} {a b : Int32} (hc : xc_code y pc = some (.if_icmp d off)) (ht : (pc : Int) + off = (t : Int)) (h1 : xcb d a b = true → xE y t lv st c q S r) (h2 : xcb d a b = false → xE y (pc + 3) lv st c q S r) : xE y pc lv (.int b :: .int a :: st) c q S r := by
  cases hb : xcb d a b with
  | true => exact xE_go hc (let ⟨n, hn⟩ := h1 hb; ⟨n, by simp only [xstep, xic, hb, if_true]; rw [if_neg (by omega), ht]; exact hn⟩)
  | false => exact xE_go hc (let ⟨n, hn⟩ := h2 hb; ⟨n, by simp only [xstep, xic, hb]; rw [if_neg (by omega)]; exact hn⟩)
theorem xe_tsw {d lo hi off : Int} {offs : Array Int} {t : Nat} {x : Int32} (hc : xc_code y pc = some (.tableswitch d lo hi offs)) (ho : (if x.toInt < lo ∨ hi < x.toInt then some d else offs[(x.toInt - lo).toNat]?) = some off) (ht : (pc : Int) + off = (t : Int)) (h : xE y t lv st c q S r) : xE y pc lv (.int x :: st) c q S r := by
  refine xE_go hc (let ⟨n, hn⟩ := h; ⟨n, ?_⟩)
  simp only [xstep, xtsw]
  split at ho
  · next hx =>
    cases ho
    rw [if_pos hx]
    unfold xtg
    rw [if_neg (by omega), ht]; exact hn
  · next hx =>
    rw [if_neg hx, ho]
    simp only [xtg]
    rw [if_neg (by omega), ht]; exact hn
theorem xe_lsw {d off : Int} {ps : Array (Int × Int)} {t : Nat} {x : Int32} (hc : xc_code y pc = some (.lookupswitch d ps)) (hp : (ps.toList.zip (ps.toList.drop 1)).all (fun (a, next) => a.1 < next.1) = true) (ho : Op.lookupswitch.offset ps.toList d x.toInt = off) (ht : (pc : Int) + off = (t : Int)) (h : xE y t lv st c q S r) : xE y pc lv (.int x :: st) c q S r := by
  refine xE_go hc (let ⟨n, hn⟩ := h; ⟨n, ?_⟩)
  simp only [xstep, xlsw]
  rw [if_pos hp, ho]
  unfold xtg
  rw [if_neg (by omega), ht]; exact hn
-- the heap
theorem xe_gfi {x ci f a : Nat} (hc : xc_code y pc = some (.getfield x)) (hf : xc_fld (xc_own y) x = some (ci, f)) (hk : f < (xc_fk ci).length) (hs : (xc_fk ci).getD f 0 = 0 ∨ (xc_fk ci).getD f 0 = 3) (ht : xt S a = some (.inl ci)) (h : xE y (pc + 3) lv (.int (xi S a f) :: st) c q S r) : xE y pc lv (.ref a :: st) c q S r := by
  refine xE_go hc (let ⟨n, hn⟩ := h; ⟨n, ?_⟩)
  simp only [xstep, xgf, hf, if_pos ht, if_pos hk]
  rcases hs with hs | hs <;> rw [hs] <;> exact hn
theorem xe_gfl {x ci f a : Nat} (hc : xc_code y pc = some (.getfield x)) (hf : xc_fld (xc_own y) x = some (ci, f)) (hk : f < (xc_fk ci).length) (hs : (xc_fk ci).getD f 0 = 1) (ht : xt S a = some (.inl ci)) (h : xE y (pc + 3) lv (.long (xj S a f) :: st) c q S r) : xE y pc lv (.ref a :: st) c q S r := by
  refine xE_go hc (let ⟨n, hn⟩ := h; ⟨n, ?_⟩)
  simp only [xstep, xgf, hf, if_pos ht, if_pos hk]
  rw [hs]; exact hn
theorem xe_gfa {x ci f a b : Nat} (hc : xc_code y pc = some (.getfield x)) (hf : xc_fld (xc_own y) x = some (ci, f)) (hk : f < (xc_fk ci).length) (hs : (xc_fk ci).getD f 0 = 2) (ht : xt S a = some (.inl ci)) (hr : xr S a f = some b) (h : xE y (pc + 3) lv (.ref b :: st) c q S r) : xE y pc lv (.ref a :: st) c q S r := by
  refine xE_go hc (let ⟨n, hn⟩ := h; ⟨n, ?_⟩)
  simp only [xstep, xgf, hf, if_pos ht, if_pos hk]
  rw [hs]
  simp only [xfv, hr, va_rf]; exact hn
theorem xe_pf {x ci f a : Nat} {v : Value} {S1 : xS} (hc : xc_code y pc = some (.putfield x)) (hf : xc_fld (xc_own y) x = some (ci, f)) (hk : f < (xc_fk ci).length) (hm : xc_may y ci f = true) (ht : xt S a = some (.inl ci)) (hs : xpv ((xc_fk ci).getD f 0) v S a f = some S1) (h : xE y (pc + 3) lv st c q S1 r) : xE y pc lv (v :: .ref a :: st) c q S r := by
  refine xE_go hc (let ⟨n, hn⟩ := h; ⟨n, ?_⟩)
  simp only [xstep, xpf, hf, if_pos ht, if_pos hk, if_pos hm, hs]; exact hn
theorem xe_gs {x j : Nat} (hc : xc_code y pc = some (.getstatic x)) (hf : xc_sta (xc_own y) x = some j) (h : xE y (pc + 3) lv (.ref (1000000 + j) :: st) c q S r) : xE y pc lv st c q S r :=
  xE_go hc (let ⟨n, hn⟩ := h; ⟨n, by simp only [xstep, xgs, hf]; exact hn⟩)
theorem xe_iald {a n i : Nat} {x : Int32} (hc : xc_code y pc = some .iaload) (ht : xt S a = some (.inr (0, n))) (hx : x = nI i) (hi : i < n) (hN : n < 2 ^ 31) (h : xE y (pc + 1) lv (.int (xi S a i) :: st) c q S r) : xE y pc lv (.int x :: .ref a :: st) c q S r := by
  subst hx
  refine xE_go hc (let ⟨n, hn⟩ := h; ⟨n, ?_⟩)
  simp only [xstep, xiald, ht]
  rw [if_pos trivial, if_neg (nI_in hi hN), nI_clamp (by omega)]; exact hn
theorem xe_bald {a n i : Nat} {x : Int32} (hc : xc_code y pc = some .baload) (ht : xt S a = some (.inr (2, n))) (hx : x = nI i) (hi : i < n) (hN : n < 2 ^ 31) (h : xE y (pc + 1) lv (.int (xi S a i) :: st) c q S r) : xE y pc lv (.int x :: .ref a :: st) c q S r := by
  subst hx
  refine xE_go hc (let ⟨n, hn⟩ := h; ⟨n, ?_⟩)
  simp only [xstep, xbald, ht]
  rw [if_pos trivial, if_neg (nI_in hi hN), nI_clamp (by omega)]; exact hn
theorem xe_lald {a n i : Nat} {x : Int32} (hc : xc_code y pc = some .laload) (ht : xt S a = some (.inr (1, n))) (hx : x = nI i) (hi : i < n) (hN : n < 2 ^ 31) (h : xE y (pc + 1) lv (.long (xj S a i) :: st) c q S r) : xE y pc lv (.int x :: .ref a :: st) c q S r := by
  subst hx
  refine xE_go hc (let ⟨n, hn⟩ := h; ⟨n, ?_⟩)
  simp only [xstep, xlald, ht]
  rw [if_pos trivial, if_neg (nI_in hi hN), nI_clamp (by omega)]; exact hn
theorem xe_aald {a j n i b : Nat} {x : Int32} (hc : xc_code y pc = some .aaload) (ht : xt S a = some (.inr (j, n))) (hj : 3 ≤ j) (hj2 : j < xc_na) (hx : x = nI i) (hi : i < n) (hN : n < 2 ^ 31) (hr : xr S a i = some b) (h : xE y (pc + 1) lv (.ref b :: st) c q S r) : xE y pc lv (.int x :: .ref a :: st) c q S r := by
  subst hx
  refine xE_go hc (let ⟨n, hn⟩ := h; ⟨n, ?_⟩)
  simp only [xstep, xaald, ht]
  rw [if_pos hj, if_pos hj2, if_neg (nI_in hi hN), nI_clamp (by omega), hr]; exact hn
theorem xe_iast {a n i : Nat} {x v : Int32} (hc : xc_code y pc = some .iastore) (ht : xt S a = some (.inr (0, n))) (hx : x = nI i) (hi : i < n) (hN : n < 2 ^ 31) (h : xE y (pc + 1) lv st c q (xsi S a i v) r) : xE y pc lv (.int v :: .int x :: .ref a :: st) c q S r := by
  subst hx
  refine xE_go hc (let ⟨n, hn⟩ := h; ⟨n, ?_⟩)
  simp only [xstep, xiast, ht]
  rw [if_pos trivial, if_neg (nI_in hi hN), nI_clamp (by omega)]; exact hn
theorem xe_bast {a n i : Nat} {x v : Int32} (hc : xc_code y pc = some .bastore) (ht : xt S a = some (.inr (2, n))) (hx : x = nI i) (hi : i < n) (hN : n < 2 ^ 31) (hv : v = 0 ∨ v = 1) (h : xE y (pc + 1) lv st c q (xsi S a i v) r) : xE y pc lv (.int v :: .int x :: .ref a :: st) c q S r := by
  subst hx
  refine xE_go hc (let ⟨n, hn⟩ := h; ⟨n, ?_⟩)
  simp only [xstep, xbast, ht]
  rw [if_pos trivial, if_neg (nI_in hi hN), if_pos hv, nI_clamp (by omega)]; exact hn
theorem xe_last {a n i : Nat} {x : Int32} {v : Int64} (hc : xc_code y pc = some .lastore) (ht : xt S a = some (.inr (1, n))) (hx : x = nI i) (hi : i < n) (hN : n < 2 ^ 31) (h : xE y (pc + 1) lv st c q (xsj S a i v) r) : xE y pc lv (.long v :: .int x :: .ref a :: st) c q S r := by
  subst hx
  refine xE_go hc (let ⟨n, hn⟩ := h; ⟨n, ?_⟩)
  simp only [xstep, xlast, ht]
  rw [if_pos trivial, if_neg (nI_in hi hN), nI_clamp (by omega)]; exact hn
theorem xiald_st {k : List Value → Option xR} {a j : Nat} {L : List Int32} {x : Int32} (ht : xt S a = none) (ha : ¬ a < 1000000) (hL : xc_ro (a - 1000000) = some L) (hi : ¬ (x < 0 ∨ L.length ≤ x.toNatClampNeg)) (h : k (.int (L.getD x.toNatClampNeg 0) :: st) = some r) : xiald k S (.int x :: .ref a :: st) = some r := by
  unfold xiald
  split
  · next x2 a2 t2 heq =>
    cases heq
    split
    · next heq2 => rw [ht] at heq2; cases heq2
    · next heq2 => rw [ht] at heq2; cases heq2
    · split
      · next h9 => exact absurd h9 ha
      · split
        · next f hf =>
          rw [hL] at hf
          cases hf
          split
          · next h9 => exact absurd h9 hi
          · exact h
        · next hf => rw [hL] at hf; cases hf
  · next hno => exact absurd rfl (hno _ _ _)
theorem xe_stld {a i : Nat} {L : List Int32} {x : Int32} (hc : xc_code y pc = some .iaload) (ht : xt S a = none) (ha : ¬ a < 1000000) (hL : xc_ro (a - 1000000) = some L) (hx : x = nI i) (hi : i < L.length) (hN : L.length < 2 ^ 31) (h : xE y (pc + 1) lv (.int (L.getD i 0) :: st) c q S r) : xE y pc lv (.int x :: .ref a :: st) c q S r := by
  subst hx
  obtain ⟨n, hn⟩ := h
  refine xE_go hc ⟨n, ?_⟩
  simp only [xstep]
  exact xiald_st (j := 0) ht ha hL (nI_in hi hN) (by rw [nI_clamp (by omega)]; exact hn)
-- calls and ends
theorem xe_call {y2 na : Nat} {o : Option (Nat × Nat)} {as : List Value} {v : Option Value} {S1 : xS} {cm cs : Nat} (ho : o = some (y2, na)) (ha : (st.take na).reverse = as) (hl : na ≤ st.length) (hv : xc_lev y2 < xc_lev y) (h1 : c + xc_mc y2 ≤ xc_mc y) (h2 : q + xc_ms y2 ≤ xc_ms y) (h3 : ((st.drop na).map fun v => v.category).sum ≤ 8) (h4 : xrcv y2 S as = true) (hF : xF y2 as S (.inr v, S1)) {st2 : List Value} (hst : v.toList ++ st.drop na = st2) (h : xE y (pc + 3) lv st2 (c + xc_mc y2) (q + xc_ms y2) S1 r) : ∃ n, xcl (fun t c q S => xev n y (pc + 3) lv t c q S) (fun t r c q S => xev n y t lv r c q S) (xc_hnd y pc) (fun y2 as S2 => if (lg_sl as).length ≤ xc_nl y2 then xev n y2 0 (lv_args 0 as) [] 0 0 S2 else none) o (xc_lev y) (xc_mc y) (xc_ms y) c q S st = some r := by
  obtain ⟨n1, e1⟩ := hF
  obtain ⟨n2, e2⟩ := h
  subst ho ha hst
  refine ⟨n1 + n2, ?_⟩
  unfold xmeth at e1
  split at e1
  · next hfit =>
    have e3 := xev_mono (k := n1 + n2) (by omega) e1
    have e4 := xev_mono (k := n1 + n2) (by omega) e2
    simp only [xcl, if_pos hl, if_pos hv, if_pos h1, if_pos h2, if_pos h3, if_pos h4, if_pos hfit, e3, e4]
  · cases e1
theorem xe_iv {x y2 na : Nat} {as : List Value} {v : Option Value} {S1 : xS} (hc : xc_code y pc = some (.invokevirtual x)) (ho : xc_vrt (xc_own y) x = some (y2, na)) (ha : (st.take na).reverse = as) (hl : na ≤ st.length) (hv : xc_lev y2 < xc_lev y) (h1 : c + xc_mc y2 ≤ xc_mc y) (h2 : q + xc_ms y2 ≤ xc_ms y) (h3 : ((st.drop na).map fun v => v.category).sum ≤ 8) (h4 : xrcv y2 S as = true) (hF : xF y2 as S (.inr v, S1)) {st2 : List Value} (hst : v.toList ++ st.drop na = st2) (h : xE y (pc + 3) lv st2 (c + xc_mc y2) (q + xc_ms y2) S1 r) : xE y pc lv st c q S r :=
  xE_go hc (xe_call (cm := 0) (cs := 0) ho ha hl hv h1 h2 h3 h4 hF hst h)
theorem xe_is {x y2 na : Nat} {as : List Value} {v : Option Value} {S1 : xS} (hc : xc_code y pc = some (.invokestatic x)) (hmi : xc_min (xc_own y) x = false) (ho : xc_stt (xc_own y) x = some (y2, na)) (ha : (st.take na).reverse = as) (hl : na ≤ st.length) (hv : xc_lev y2 < xc_lev y) (h1 : c + xc_mc y2 ≤ xc_mc y) (h2 : q + xc_ms y2 ≤ xc_ms y) (h3 : ((st.drop na).map fun v => v.category).sum ≤ 8) (h4 : xrcv y2 S as = true) (hF : xF y2 as S (.inr v, S1)) {st2 : List Value} (hst : v.toList ++ st.drop na = st2) (h : xE y (pc + 3) lv st2 (c + xc_mc y2) (q + xc_ms y2) S1 r) : xE y pc lv st c q S r :=
  xE_go hc (let ⟨n, hn⟩ := xe_call (cm := 0) (cs := 0) ho ha hl hv h1 h2 h3 h4 hF hst h; ⟨n, by simp only [xstep]; rw [if_neg (by rw [hmi]; decide)]; exact hn⟩)
theorem xe_min {x : Nat} {a b : Int32} (hc : xc_code y pc = some (.invokestatic x)) (hmi : xc_min (xc_own y) x = true) (h1 : c ≤ xc_mc y) (h2 : q ≤ xc_ms y) (h3 : (st.map fun v => v.category).sum ≤ 8) (h : xE y (pc + 3) lv (.int (if b < a then b else a) :: st) c q S r) : xE y pc lv (.int b :: .int a :: st) c q S r :=
  xE_go hc (let ⟨n, hn⟩ := h; ⟨n, by simp only [xstep]; rw [if_pos hmi, if_pos h1, if_pos h2]; simp only [xmin]; rw [if_pos h3]; exact hn⟩)
theorem xe_ireturn {v : Int32} (hc : xc_code y pc = some .ireturn) (h1 : c ≤ xc_mc y) (h2 : q ≤ xc_ms y) (h3 : xc_ret y = 1) : xE y pc lv [.int v] c q S (.inr (some (.int v)), S) :=
  xE_go hc ⟨0, by simp only [xstep]; rw [if_pos h1, if_pos h2]; simp only [xret]; rw [if_pos h3]⟩
theorem xe_zreturn {v : Int32} (hc : xc_code y pc = some .ireturn) (h1 : c ≤ xc_mc y) (h2 : q ≤ xc_ms y) (h3 : xc_ret y = 2) (hv : v = 0 ∨ v = 1) : xE y pc lv [.int v] c q S (.inr (some (.int v)), S) :=
  xE_go hc ⟨0, by simp only [xstep]; rw [if_pos h1, if_pos h2]; simp only [xret]; rw [if_neg (by omega), if_pos h3, if_pos hv]⟩
theorem xe_lreturn {v : Int64} (hc : xc_code y pc = some .lreturn) (h1 : c ≤ xc_mc y) (h2 : q ≤ xc_ms y) (h3 : xc_ret y = 3) : xE y pc lv [.long v] c q S (.inr (some (.long v)), S) :=
  xE_go hc ⟨0, by simp only [xstep]; rw [if_pos h1, if_pos h2]; simp only [xrel]; rw [if_pos h3]⟩
theorem xe_areturn {v : Nat} (hc : xc_code y pc = some .areturn) (h1 : c ≤ xc_mc y) (h2 : q ≤ xc_ms y) (h3 : xc_ret y = 4) : xE y pc lv [.ref v] c q S (.inr (some (.ref v)), S) :=
  xE_go hc ⟨0, by simp only [xstep]; rw [if_pos h1, if_pos h2]; simp only [xrea]; rw [if_pos h3]⟩
theorem xe_return (hc : xc_code y pc = some .return_) (h1 : c ≤ xc_mc y) (h2 : q ≤ xc_ms y) (h3 : xc_ret y = 0) : xE y pc lv [] c q S (.inr none, S) :=
  xE_go hc ⟨0, by simp only [xstep]; rw [if_pos h1, if_pos h2]; simp only [xrev]; rw [if_pos h3]⟩
end PR
