-- WHAT A METHOD CANNOT TOUCH: with references in D alone, what lies elsewhere stays
def gV (D : Nat → Prop) (v : Value) : Prop := match v with
  | .ref a => D a
  | _ => True
def gS (D : Nat → Prop) : List Value → Prop
  | [] => True
  | v :: r => gV D v ∧ gS D r
def gL (D : Nat → Prop) (lv : xL) : Prop := ∀ q, q ∈ lv → gV D q.2
/-- a place that there is -/
def inb (t : Option xT) (k : Nat) : Prop := match t with
  | some (.inl ci) => (xc_fk ci).getD k 0 = 2
  | some (.inr (j, n)) => 3 ≤ j ∧ k < n
  | none => False
def gC (D : Nat → Prop) (S : xS) : Prop := ∀ a k b, D a → inb (xt S a) k → xr S a k = some b → D b
def gR (D : Nat → Prop) (N : Nat → Nat → Prop) (S : xS) (r : xR) : Prop := (∀ a k, N a k → xi r.2 a k = xi S a k ∧ xj r.2 a k = xj S a k) ∧ gC D r.2 ∧ xt r.2 = xt S ∧ ∀ v, r.1 = .inr (some v) → gV D v
def gA (D : Nat → Prop) (N : Nat → Nat → Prop) (S : xS) : Prop := ∀ a j n k, D a → xt S a = some (.inr (j, n)) → ¬ N a k
def gP (D : Nat → Prop) (N : Nat → Nat → Prop) (pf : Nat → Nat → Bool) (S : xS) : Prop := ∀ ci f a, pf ci f = true → D a → xt S a = some (.inl ci) → ¬ N a f
section GF
variable {D : Nat → Prop} {N : Nat → Nat → Prop} {pf : Nat → Nat → Bool} {Yb : Nat → Bool} {r : xR} {Q : Prop}
theorem gS_iff : ∀ (st : List Value), gS D st ↔ ∀ v, v ∈ st → gV D v := by
  intro st
  induction st with
  | nil => exact ⟨fun _ v h => (by cases h), fun _ => trivial⟩
  | cons a t ih =>
    constructor
    · intro h v hv
      rcases List.mem_cons.mp hv with e | e
      · rw [e]; exact h.1
      · exact (ih.mp h.2) v e
    · intro h
      exact ⟨h a (List.mem_cons.mpr (Or.inl rfl)), ih.mpr (fun v hv => h v (List.mem_cons.mpr (Or.inr hv)))⟩
theorem gS_c {v : Value} {st : List Value} (hv : gV D v) (hs : gS D st) : gS D (v :: st) := ⟨hv, hs⟩
theorem gL_ld {lv : xL} {i : Nat} {v : Value} (hl : gL D lv) (h : xld lv i = some v) : gV D v := hl _ (xld_mem h)
theorem gL_f {lv : xL} {i : Nat} {v : Value} (hl : gL D lv) (hv : gV D v) (p : Nat × Value → Bool) : gL D ((i, v) :: lv.filter p) := by
  intro q hq
  rcases List.mem_cons.mp hq with e | e
  · rw [e]; exact hv
  · exact hl q (List.mem_filter.mp e).1
theorem gL_1 {lv : xL} {i : Nat} {v : Value} (hl : gL D lv) (hv : gV D v) : gL D (xst1 lv i v) := gL_f hl hv _
theorem gL_2 {lv : xL} {i : Nat} {v : Value} (hl : gL D lv) (hv : gV D v) : gL D (xst2 lv i v) := gL_f hl hv _
theorem gL_args : ∀ (as : List Value) (i : Nat), gS D as → gL D (lv_args i as) := by
  intro as
  induction as with
  | nil => intro i _ q hq; cases hq
  | cons a t ih =>
    intro i h q hq
    rcases List.mem_cons.mp hq with e | e
    · rw [e]; exact h.1
    · exact ih _ h.2 q e
theorem gV_rf {o : Option Nat} (h : ∀ b, o = some b → D b) : gV D (va_rf o) := by
  cases o with
  | none => trivial
  | some b => exact h b rfl
theorem xldI_fr {k : Value → Option xR} {lv : xL} {i : Nat}  (h : xldI k lv i = some r) (hk : ∀ v, gV D v → k v = some r → Q) : Q := by
  unfold xldI at h
  split at h
  · exact hk _ (by trivial) h
  · cases h
theorem xldL_fr {k : Value → Option xR} {lv : xL} {i : Nat}  (h : xldL k lv i = some r) (hk : ∀ v, gV D v → k v = some r → Q) : Q := by
  unfold xldL at h
  split at h
  · exact hk _ (by trivial) h
  · cases h
theorem xldA_fr {k : Value → Option xR} {lv : xL} {i : Nat} (hl : gL D lv) (h : xldA k lv i = some r) (hk : ∀ v, gV D v → k v = some r → Q) : Q := by
  unfold xldA at h
  split at h
  · next hx => exact hk _ (gL_ld hl hx) h
  · exact hk _ (by trivial) h
  · cases h
theorem xstI_fr {k : xL → List Value → Option xR} {lv : xL} {i nL : Nat} {st : List Value} (hl : gL D lv) (hs : gS D st) (h : xstI k lv i nL st = some r) (hk : ∀ lv2 st2, gL D lv2 → gS D st2 → k lv2 st2 = some r → Q) : Q := by
  unfold xstI at h
  split at h
  · split at h
    · exact hk _ _ (gL_1 hl (by trivial)) hs.2 h
    · cases h
  · cases h
theorem xstL_fr {k : xL → List Value → Option xR} {lv : xL} {i nL : Nat} {st : List Value} (hl : gL D lv) (hs : gS D st) (h : xstL k lv i nL st = some r) (hk : ∀ lv2 st2, gL D lv2 → gS D st2 → k lv2 st2 = some r → Q) : Q := by
  unfold xstL at h
  split at h
  · split at h
    · exact hk _ _ (gL_2 hl (by trivial)) hs.2 h
    · cases h
  · cases h
theorem xstA_fr {k : xL → List Value → Option xR} {lv : xL} {i nL : Nat} {st : List Value} (hl : gL D lv) (hs : gS D st) (h : xstA k lv i nL st = some r) (hk : ∀ lv2 st2, gL D lv2 → gS D st2 → k lv2 st2 = some r → Q) : Q := by
  unfold xstA at h
  split at h
  · split at h
    · exact hk _ _ (gL_1 hl hs.1) hs.2 h
    · cases h
  · split at h
    · exact hk _ _ (gL_1 hl (by trivial)) hs.2 h
    · cases h
  · cases h
theorem xinc_fr {k : xL → Option xR} {lv : xL} {i nL : Nat} {n : Int} (hl : gL D lv) (h : xinc k lv i nL n = some r) (hk : ∀ lv2, gL D lv2 → k lv2 = some r → Q) : Q := by
  unfold xinc at h
  split at h
  · split at h
    · exact hk _ (gL_1 hl (by trivial)) h
    · cases h
  · cases h
theorem xbI_fr {k : List Value → Option xR} {st : List Value} {f : Int32 → Int32 → Int32} (hs : gS D st) (h : xbI k f st = some r) (hk : ∀ st2, gS D st2 → k st2 = some r → Q) : Q := by
  unfold xbI at h
  split at h
  · (refine hk _ ?_ h; exact ⟨trivial, hs.2.2⟩)
  · cases h
theorem xbL_fr {k : List Value → Option xR} {st : List Value} {f : Int64 → Int64 → Int64} (hs : gS D st) (h : xbL k f st = some r) (hk : ∀ st2, gS D st2 → k st2 = some r → Q) : Q := by
  unfold xbL at h
  split at h
  · (refine hk _ ?_ h; exact ⟨trivial, hs.2.2⟩)
  · cases h
theorem xbS_fr {k : List Value → Option xR} {st : List Value} {f : Int64 → Int32 → Int64} (hs : gS D st) (h : xbS k f st = some r) (hk : ∀ st2, gS D st2 → k st2 = some r → Q) : Q := by
  unfold xbS at h
  split at h
  · (refine hk _ ?_ h; exact ⟨trivial, hs.2.2⟩)
  · cases h
theorem xbD_fr {k : List Value → Option xR} {st : List Value} {f : Int32 → Int32 → Int32} (hs : gS D st) (h : xbD k f st = some r) (hk : ∀ st2, gS D st2 → k st2 = some r → Q) : Q := by
  unfold xbD at h
  split at h
  · split at h
    · cases h
    · (refine hk _ ?_ h; exact ⟨trivial, hs.2.2⟩)
  · cases h
theorem xbE_fr {k : List Value → Option xR} {st : List Value} {f : Int64 → Int64 → Int64} (hs : gS D st) (h : xbE k f st = some r) (hk : ∀ st2, gS D st2 → k st2 = some r → Q) : Q := by
  unfold xbE at h
  split at h
  · split at h
    · cases h
    · (refine hk _ ?_ h; exact ⟨trivial, hs.2.2⟩)
  · cases h
theorem xbC_fr {k : List Value → Option xR} {st : List Value} (hs : gS D st) (h : xbC k st = some r) (hk : ∀ st2, gS D st2 → k st2 = some r → Q) : Q := by
  unfold xbC at h
  split at h
  · (refine hk _ ?_ h; exact ⟨trivial, hs.2.2⟩)
  · cases h
theorem xuI_fr {k : List Value → Option xR} {st : List Value} {f : Int32 → Value} (hs : gS D st) (hf : ∀ a, gV D (f a)) (h : xuI k f st = some r) (hk : ∀ st2, gS D st2 → k st2 = some r → Q) : Q := by
  unfold xuI at h
  split at h
  · (refine hk _ ?_ h; exact ⟨hf _, hs.2⟩)
  · cases h
theorem xuL_fr {k : List Value → Option xR} {st : List Value} {f : Int64 → Value} (hs : gS D st) (hf : ∀ a, gV D (f a)) (h : xuL k f st = some r) (hk : ∀ st2, gS D st2 → k st2 = some r → Q) : Q := by
  unfold xuL at h
  split at h
  · (refine hk _ ?_ h; exact ⟨hf _, hs.2⟩)
  · cases h
theorem xdup_fr {k : List Value → Option xR} {st : List Value} (hs : gS D st) (h : xdup k st = some r) (hk : ∀ st2, gS D st2 → k st2 = some r → Q) : Q := by
  unfold xdup at h
  split at h
  · split at h
    · (refine hk _ ?_ h; exact ⟨hs.1, hs⟩)
    · cases h
  · cases h
theorem xdup2_fr {k : List Value → Option xR} {st : List Value} (hs : gS D st) (h : xdup2 k st = some r) (hk : ∀ st2, gS D st2 → k st2 = some r → Q) : Q := by
  unfold xdup2 at h
  split at h
  · split at h
    · split at h
      · (refine hk _ ?_ h; exact ⟨hs.1, hs.2.1, hs⟩)
      · cases h
    · cases h
  · cases h
theorem xpop_fr {k : List Value → Option xR} {st : List Value} (hs : gS D st) (h : xpop k st = some r) (hk : ∀ st2, gS D st2 → k st2 = some r → Q) : Q := by
  unfold xpop at h
  split at h
  · split at h
    · exact hk _ hs.2 h
    · cases h
  · cases h
theorem xpop2_fr {k : List Value → Option xR} {st : List Value} (hs : gS D st) (h : xpop2 k st = some r) (hk : ∀ st2, gS D st2 → k st2 = some r → Q) : Q := by
  unfold xpop2 at h
  split at h
  · split at h
    · exact hk _ hs.2 h
    · cases h
  · cases h
theorem xtg_fr {k : Nat → Option xR} {pc : Nat} {off : Int}  (h : xtg k pc off = some r) (hk : ∀ t, k t = some r → Q) : Q := by
  unfold xtg at h
  split at h
  · cases h
  · exact hk _ h
theorem xif_fr {k : Nat → List Value → Option xR} {st : List Value} {c : Jvm.ClassFile.Cond} {pc : Nat} {off : Int} (hs : gS D st) (h : xif k c pc off st = some r) (hk : ∀ t st2, gS D st2 → k t st2 = some r → Q) : Q := by
  unfold xif at h
  split at h
  · split at h
    · cases h
    · split at h
      · exact hk _ _ hs.2 h
      · exact hk _ _ hs.2 h
  · cases h
theorem xic_fr {k : Nat → List Value → Option xR} {st : List Value} {c : Jvm.ClassFile.Cond} {pc : Nat} {off : Int} (hs : gS D st) (h : xic k c pc off st = some r) (hk : ∀ t st2, gS D st2 → k t st2 = some r → Q) : Q := by
  unfold xic at h
  split at h
  · split at h
    · cases h
    · split at h
      · exact hk _ _ hs.2.2 h
      · exact hk _ _ hs.2.2 h
  · cases h
theorem xtsw_fr {k : Nat → List Value → Option xR} {st : List Value} {pc : Nat} {d lo hi : Int} {offs : Array Int} (hs : gS D st) (h : xtsw k pc d lo hi offs st = some r) (hk : ∀ t st2, gS D st2 → k t st2 = some r → Q) : Q := by
  unfold xtsw at h
  split at h
  · split at h
    · exact xtg_fr h (fun t q => hk _ _ hs.2 q)
    · split at h
      · exact xtg_fr h (fun t q => hk _ _ hs.2 q)
      · cases h
  · cases h
theorem xlsw_fr {k : Nat → List Value → Option xR} {st : List Value} {pc : Nat} {d : Int} {ps : Array (Int × Int)} (hs : gS D st) (h : xlsw k pc d ps st = some r) (hk : ∀ t st2, gS D st2 → k t st2 = some r → Q) : Q := by
  unfold xlsw at h
  split at h
  · split at h
    · exact xtg_fr h (fun t q => hk _ _ hs.2 q)
    · cases h
  · cases h
theorem xgf_fr {k : List Value → Option xR} {st : List Value} {o : Option (Nat × Nat)} {S : xS} (hs : gS D st) (hc : gC D S) (h : xgf k o S st = some r) (hk : ∀ st2, gS D st2 → k st2 = some r → Q) : Q := by
  unfold xgf at h
  split at h
  · next ci f a r0 =>
    split at h
    · next ht =>
      split at h
      · next hf =>
        refine hk _ ?_ h
        refine ⟨?_, hs.2⟩
        unfold xfv
        split
        · trivial
        · split
          · next h2 => exact gV_rf (fun b e => hc a f b hs.1 (by rw [ht]; exact h2) e)
          · trivial
      · cases h
    · cases h
  · cases h
def gW (D : Nat → Prop) (N : Nat → Nat → Prop) (S S1 : xS) : Prop := (∀ a k, N a k → xi S1 a k = xi S a k ∧ xj S1 a k = xj S a k) ∧ gC D S1 ∧ xt S1 = xt S
theorem gW_i {S : xS} {a k : Nat} {x : Int32} (hc : gC D S) (hn : ¬ N a k) : gW D N S (xsi S a k x) := by
  refine ⟨fun b j hb => ⟨?_, rfl⟩, hc, rfl⟩
  show x2 (xi S) a k x b j = _
  unfold x2
  split
  · split
    · rename_i e1 e2
      rw [e1, e2] at hb
      exact absurd hb hn
    · rfl
  · rfl
theorem gW_j {S : xS} {a k : Nat} {x : Int64} (hc : gC D S) (hn : ¬ N a k) : gW D N S (xsj S a k x) := by
  refine ⟨fun b j hb => ⟨rfl, ?_⟩, hc, rfl⟩
  show x2 (xj S) a k x b j = _
  unfold x2
  split
  · split
    · rename_i e1 e2
      rw [e1, e2] at hb
      exact absurd hb hn
    · rfl
  · rfl
theorem gW_r {S : xS} {a k : Nat} {x : Option Nat} (hc : gC D S) (hx : ∀ b, x = some b → D b) : gW D N S (xsr S a k x) := by
  refine ⟨fun b j hb => ⟨rfl, rfl⟩, fun b j e hb hi he => ?_, rfl⟩
  have : xr (xsr S a k x) b j = x2 (xr S) a k x b j := rfl
  rw [this] at he
  unfold x2 at he
  split at he
  · split at he
    · exact hx e he
    · exact hc _ _ _ hb hi he
  · exact hc _ _ _ hb hi he
theorem xpv_fr {t : Nat} {v : Value} {S S1 : xS} {a f : Nat} (hv : gV D v) (hc : gC D S) (hn : ¬ N a f) (h : xpv t v S a f = some S1) : gW D N S S1 := by
  unfold xpv at h
  split at h
  · split at h
    · cases h; exact gW_i hc hn
    · split at h
      · split at h
        · cases h; exact gW_i hc hn
        · cases h
      · cases h
  · split at h
    · cases h; exact gW_j hc hn
    · cases h
  · split at h
    · cases h; exact gW_r hc (fun b e => (by cases e; exact hv))
    · cases h
  · split at h
    · cases h; exact gW_r hc (fun b e => (by cases e))
    · cases h
  · cases h
theorem xpf_fr {k : List Value → xS → Option xR} {st : List Value} {S : xS} {o : Option (Nat × Nat)} {may : Nat → Nat → Bool} (hs : gS D st) (hc : gC D S) (hp : gP D N pf S) (ho : ∀ ci f, o = some (ci, f) → pf ci f = true) (h : xpf k o may S st = some r) (hk : ∀ st2 S1, gS D st2 → gW D N S S1 → k st2 S1 = some r → Q) : Q := by
  unfold xpf at h
  split at h
  · next ci f v a r0 =>
    split at h
    · next ht =>
      split at h
      · split at h
        · split at h
          · next hx => exact hk _ _ hs.2.2 (xpv_fr hs.1 hc (hp ci f a (ho ci f rfl) hs.2.1 ht) hx) h
          · cases h
        · cases h
      · cases h
    · cases h
  · cases h
theorem xbald_fr {k : List Value → Option xR} {st : List Value} {S : xS} (hs : gS D st) (h : xbald k S st = some r) (hk : ∀ st2, gS D st2 → k st2 = some r → Q) : Q := by
  unfold xbald at h
  split at h
  · split at h
    · split at h
      · split at h
        · cases h
        · (refine hk _ ?_ h; exact ⟨trivial, hs.2.2⟩)
      · cases h
    · cases h
  · cases h
theorem xlald_fr {k : List Value → Option xR} {st : List Value} {S : xS} (hs : gS D st) (h : xlald k S st = some r) (hk : ∀ st2, gS D st2 → k st2 = some r → Q) : Q := by
  unfold xlald at h
  split at h
  · split at h
    · split at h
      · split at h
        · cases h
        · (refine hk _ ?_ h; exact ⟨trivial, hs.2.2⟩)
      · cases h
    · cases h
  · cases h
theorem xiald_fr {k : List Value → Option xR} {st : List Value} {S : xS} (hs : gS D st) (h : xiald k S st = some r) (hk : ∀ st2, gS D st2 → k st2 = some r → Q) : Q := by
  unfold xiald at h
  split at h
  · split at h
    · split at h
      · split at h
        · cases h
        · (refine hk _ ?_ h; exact ⟨trivial, hs.2.2⟩)
      · cases h
    · cases h
    · split at h
      · cases h
      · split at h
        · split at h
          · cases h
          · (refine hk _ ?_ h; exact ⟨trivial, hs.2.2⟩)
        · cases h
  · cases h
theorem xaald_fr {k : List Value → Option xR} {st : List Value} {S : xS} (hs : gS D st) (hc : gC D S) (h : xaald k S st = some r) (hk : ∀ st2, gS D st2 → k st2 = some r → Q) : Q := by
  unfold xaald at h
  split at h
  · next i a r0 =>
    split at h
    · next j n ht =>
      split at h
      · next hj =>
        split at h
        · split at h
          · cases h
          · next hq =>
            refine hk _ ?_ h
            exact ⟨gV_rf (fun b e => hc _ _ b hs.2.1 (by rw [ht]; exact ⟨hj, by omega⟩) e), hs.2.2⟩
        · cases h
      · cases h
    · cases h
  · cases h
theorem xiast_fr {k : List Value → xS → Option xR} {st : List Value} {S : xS} (hs : gS D st) (hc : gC D S) (ha : gA D N S) (h : xiast k S st = some r) (hk : ∀ st2 S1, gS D st2 → gW D N S S1 → k st2 S1 = some r → Q) : Q := by
  unfold xiast at h
  split at h
  · split at h
    · next ht =>
      split at h
      · split at h
        · cases h
        · exact hk _ _ hs.2.2.2 (gW_i hc (ha _ _ _ _ hs.2.2.1 ht)) h
      · cases h
    · cases h
  · cases h
theorem xlast_fr {k : List Value → xS → Option xR} {st : List Value} {S : xS} (hs : gS D st) (hc : gC D S) (ha : gA D N S) (h : xlast k S st = some r) (hk : ∀ st2 S1, gS D st2 → gW D N S S1 → k st2 S1 = some r → Q) : Q := by
  unfold xlast at h
  split at h
  · split at h
    · next ht =>
      split at h
      · split at h
        · cases h
        · exact hk _ _ hs.2.2.2 (gW_j hc (ha _ _ _ _ hs.2.2.1 ht)) h
      · cases h
    · cases h
  · cases h
theorem xbast_fr {k : List Value → xS → Option xR} {st : List Value} {S : xS} (hs : gS D st) (hc : gC D S) (ha : gA D N S) (h : xbast k S st = some r) (hk : ∀ st2 S1, gS D st2 → gW D N S S1 → k st2 S1 = some r → Q) : Q := by
  unfold xbast at h
  split at h
  · split at h
    · next ht =>
      split at h
      · split at h
        · cases h
        · split at h
          · exact hk _ _ hs.2.2.2 (gW_i hc (ha _ _ _ _ hs.2.2.1 ht)) h
          · cases h
      · cases h
    · cases h
  · cases h
theorem sta_all : xc_stas.all (fun l => l.all (fun e => decide (e.2.1 < 3))) = true := by decide +kernel
theorem sta_lt {own x v : Nat} (h : xc_sta own x = some v) : v < 3 := by
  unfold xc_sta xc_at at h
  obtain ⟨e, h1, h2⟩ := Option.map_eq_some_iff.mp h
  obtain ⟨e2, h3, h4⟩ := Option.map_eq_some_iff.mp h1
  have h5 := List.mem_of_find?_eq_some h3
  by_cases ho : own < xc_stas.length
  · have h6 : xc_stas.getD own [] = xc_stas[own] := by
      simp only [List.getD_eq_getElem?_getD]
      rw [List.getElem?_eq_getElem ho]
      rfl
    rw [h6] at h5
    have h7 := List.all_eq_true.mp (List.all_eq_true.mp sta_all _ (List.getElem_mem ho)) _ h5
    rw [h4] at h7
    rw [← h2]
    simpa using h7
  · have h6 : xc_stas.getD own [] = [] := by
      simp only [List.getD_eq_getElem?_getD]
      rw [List.getElem?_eq_none (by omega)]
      rfl
    rw [h6] at h5
    cases h5
theorem xlc2_fr {k : Int64 → Option xR} {x : Option Int64} (h : xlc2 k x = some r) (hk : ∀ v, k v = some r → Q) : Q := by
  unfold xlc2 at h
  split at h
  · exact hk _ h
  · cases h
theorem xgs_fr {k : Nat → Option xR} {x : Option Nat} (h : xgs k x = some r) (hx : ∀ v, x = some v → v < 3) (hk : ∀ v, v < 3 → k v = some r → Q) : Q := by
  unfold xgs at h
  split at h
  · exact hk _ (hx _ rfl) h
  · cases h
theorem xmin_fr {k : List Value → Option xR} {st : List Value} (hs : gS D st) (h : xmin k st = some r) (hk : ∀ st2, gS D st2 → k st2 = some r → Q) : Q := by
  unfold xmin at h
  split at h
  · split at h
    · (refine hk _ ?_ h; exact ⟨trivial, hs.2.2⟩)
    · cases h
  · cases h
theorem gR.w {S S1 : xS} (h1 : gW D N S S1) (h2 : gR D N S1 r) : gR D N S r := ⟨fun a k ha => ⟨(h2.1 a k ha).1.trans (h1.1 a k ha).1, (h2.1 a k ha).2.trans (h1.1 a k ha).2⟩, h2.2.1, h2.2.2.1.trans h1.2.2, h2.2.2.2⟩
theorem gW.rfl' {S : xS} (h : gC D S) : gW D N S S := ⟨fun _ _ _ => ⟨rfl, rfl⟩, h, rfl⟩
/-- an instruction that may be: Yb: the methods that may be called, pf: the fields that may be written -/
def wI (Yb : Nat → Bool) (pf : Nat → Nat → Bool) (y : Nat) (i : Instr) : Bool := match i with
  | .invokevirtual x => (match xc_vrt (xc_own y) x with
    | some (y2, _) => Yb y2
    | none => true)
  | .invokestatic x => (match xc_stt (xc_own y) x with
    | some (y2, _) => Yb y2
    | none => true)
  | .putfield x => (match xc_fld (xc_own y) x with
    | some (ci, f) => pf ci f
    | none => true)
  | .invokespecial x => !(xc_obj (xc_own y) x) && (xc_spc (xc_own y) x).isNone
  | .newarray _ => false
  | .anewarray _ => false
  | .aastore => false
  | .new x => (xc_exc (xc_own y) x).isSome
  | .aconst_null => false
  | .dup_x1 => false
  | .dup_x2 => false
  | .ifnull _ => false
  | .ifnonnull _ => false
  | .ldc _ => false
  | _ => true
def wY (Yb : Nat → Bool) (pf : Nat → Nat → Bool) (y : Nat) : Bool := (xc_all.getD y []).all (fun e => wI Yb pf y e.2)
def wAll (Yb : Nat → Bool) (pf : Nat → Nat → Bool) : Prop := ∀ y, Yb y = true → y < 173 ∧ wY Yb pf y = true
theorem hnd_all : (List.range 173).all (fun y => (xc_hnds.getD y []).isEmpty) = true := by decide +kernel
theorem hnd_no {y pc e : Nat} (hy : y < 173) : xc_hnd y pc e = none := by
  have h := List.all_eq_true.mp hnd_all y (List.mem_range.mpr hy)
  have h2 : xc_hnds.getD y [] = [] := List.isEmpty_iff.mp h
  unfold xc_hnd
  rw [h2]
  rfl
theorem xcl_fr {hd : Nat → Option Nat} {k : List Value → Nat → Nat → xS → Option xR} {k2 : Nat → List Value → Nat → Nat → xS → Option xR} {call : Nat → List Value → xS → Option xR} {x : Option (Nat × Nat)} {lev mc ms c q : Nat} {S : xS} {st : List Value} (hs : gS D st) (hc : gC D S) (hw : ∀ y na, x = some (y, na) → Yb y = true) (hcall : ∀ y as r2, Yb y = true → gS D as → call y as S = some r2 → gR D N S r2) (hhd : ∀ e, hd e = none) (h : xcl k k2 hd call x lev mc ms c q S st = some r) (hk : ∀ st2 c2 q2 S1, gS D st2 → gW D N S S1 → k st2 c2 q2 S1 = some r → Q) : Q := by
  unfold xcl at h
  split at h
  · next y na =>
    split at h
    · split at h
      · split at h
        · split at h
          · split at h
            · split at h
              · split at h
                · next v S1 hx =>
                  have hg := hcall y _ _ (hw y na rfl) ((gS_iff _).mpr (fun v hv => (gS_iff st).mp hs v (List.mem_of_mem_take (List.mem_reverse.mp hv)))) hx
                  refine hk _ _ _ S1 ((gS_iff _).mpr (fun u hu => ?_)) ⟨hg.1, hg.2.1, hg.2.2.1⟩ h
                  rcases List.mem_append.mp hu with e | e
                  · cases v with
                    | none => cases e
                    | some w =>
                      have : u = w := by simpa using e
                      rw [this]
                      exact hg.2.2.2 w rfl
                  · exact (gS_iff st).mp hs u (List.mem_of_mem_drop e)
                · rw [hhd] at h
                  cases h
                · cases h
              · cases h
            · cases h
          · cases h
        · cases h
      · cases h
    · cases h
  · cases h
theorem xthr_fr {x : Option (Nat × Nat)} {y pc mc ms c q : Nat} {S : xS} (hc : gC D S) (h : xthr x y pc mc ms c q S = some r) : gR D N S r := by
  unfold xthr at h
  split at h
  · split at h
    · split at h
      · split at h
        · cases h
          exact ⟨fun _ _ _ => ⟨rfl, rfl⟩, hc, rfl, fun v e => (by cases e)⟩
        · cases h
      · cases h
    · cases h
  · cases h
theorem xret_fr {y : Nat} {S : xS} {st : List Value} (_ : gS D st) (hc : gC D S) (h : xret y S st = some r) : gR D N S r := by
  unfold xret at h
  split at h
  · split at h
    · cases h; exact ⟨fun _ _ _ => ⟨rfl, rfl⟩, hc, rfl, fun v e => (by cases e; trivial)⟩
    · split at h
      · split at h
        · cases h; exact ⟨fun _ _ _ => ⟨rfl, rfl⟩, hc, rfl, fun v e => (by cases e; trivial)⟩
        · cases h
      · cases h
  · cases h
theorem xrel_fr {y : Nat} {S : xS} {st : List Value} (_ : gS D st) (hc : gC D S) (h : xrel y S st = some r) : gR D N S r := by
  unfold xrel at h
  split at h
  · split at h
    · cases h; exact ⟨fun _ _ _ => ⟨rfl, rfl⟩, hc, rfl, fun v e => (by cases e; trivial)⟩
    · cases h
  · cases h
theorem xrea_fr {y : Nat} {S : xS} {st : List Value} (hs : gS D st) (hc : gC D S) (h : xrea y S st = some r) : gR D N S r := by
  unfold xrea at h
  split at h
  · split at h
    · cases h; exact ⟨fun _ _ _ => ⟨rfl, rfl⟩, hc, rfl, fun v e => (by cases e; exact hs.1)⟩
    · cases h
  · cases h
theorem xrev_fr {y : Nat} {S : xS} {st : List Value} (_ : gS D st) (hc : gC D S) (h : xrev y S st = some r) : gR D N S r := by
  unfold xrev at h
  split at h
  · split at h
    · cases h; exact ⟨fun _ _ _ => ⟨rfl, rfl⟩, hc, rfl, fun v e => (by cases e)⟩
    · cases h
  · cases h
theorem xev_code {y pc : Nat} {i : Instr} (hW : wAll Yb pf) (hy : Yb y = true) (h : xc_code y pc = some i) : wI Yb pf y i = true := by
  have h1 := (hW y hy).2
  unfold xc_code at h
  obtain ⟨e, h2, h3⟩ := Option.map_eq_some_iff.mp h
  have h4 := List.all_eq_true.mp h1 e (List.mem_of_find?_eq_some h2)
  rw [h3] at h4
  exact h4
set_option maxHeartbeats 4000000 in
theorem xstep_fr {K : xK} {call : Nat → List Value → xS → Option xR} {y pc : Nat} {i : Instr} {lv : xL} {st : List Value} {c q : Nat} {S : xS} (hy : y < 173) (hw : wI Yb pf y i = true) (hD : ∀ v, v < 3 → D (1000000 + v)) (hl : gL D lv) (hs : gS D st) (hc : gC D S) (ha : gA D N S) (hp : gP D N pf S) (hK : ∀ pc lv st c q S1, gL D lv → gS D st → gW D N S S1 → K pc lv st c q S1 = some r → gR D N S r) (hcall : ∀ y2 as r2, Yb y2 = true → gS D as → call y2 as S = some r2 → gR D N S r2) : xstep K call y pc i lv st c q S = some r → gR D N S r := by
  have h0 := gW.rfl' (N := N) hc
  unfold xstep
  split
  all_goals intro h
  all_goals first
    | (cases h; done)
    | exact hK _ _ _ _ _ _ hl (gS_c (by trivial) hs) h0 h
    | exact hK _ _ _ _ _ _ hl hs h0 h
    | exact xlc2_fr h (fun v q => hK _ _ _ _ _ _ hl (gS_c (by trivial) hs) h0 q)
    | exact xldI_fr (D := D) h (fun v hv q => hK _ _ _ _ _ _ hl (gS_c hv hs) h0 q)
    | exact xldL_fr (D := D) h (fun v hv q => hK _ _ _ _ _ _ hl (gS_c hv hs) h0 q)
    | exact xldA_fr hl h (fun v hv q => hK _ _ _ _ _ _ hl (gS_c hv hs) h0 q)
    | exact xstI_fr hl hs h (fun lv2 st2 h1 h2 q => hK _ _ _ _ _ _ h1 h2 h0 q)
    | exact xstL_fr hl hs h (fun lv2 st2 h1 h2 q => hK _ _ _ _ _ _ h1 h2 h0 q)
    | exact xstA_fr hl hs h (fun lv2 st2 h1 h2 q => hK _ _ _ _ _ _ h1 h2 h0 q)
    | exact xinc_fr hl h (fun lv2 h1 q => hK _ _ _ _ _ _ h1 hs h0 q)
    | exact xbI_fr hs h (fun st2 h1 q => hK _ _ _ _ _ _ hl h1 h0 q)
    | exact xbD_fr hs h (fun st2 h1 q => hK _ _ _ _ _ _ hl h1 h0 q)
    | exact xbL_fr hs h (fun st2 h1 q => hK _ _ _ _ _ _ hl h1 h0 q)
    | exact xbE_fr hs h (fun st2 h1 q => hK _ _ _ _ _ _ hl h1 h0 q)
    | exact xbS_fr hs h (fun st2 h1 q => hK _ _ _ _ _ _ hl h1 h0 q)
    | exact xbC_fr hs h (fun st2 h1 q => hK _ _ _ _ _ _ hl h1 h0 q)
    | exact xuI_fr hs (fun _ => (by trivial)) h (fun st2 h1 q => hK _ _ _ _ _ _ hl h1 h0 q)
    | exact xuL_fr hs (fun _ => (by trivial)) h (fun st2 h1 q => hK _ _ _ _ _ _ hl h1 h0 q)
    | exact xdup_fr hs h (fun st2 h1 q => hK _ _ _ _ _ _ hl h1 h0 q)
    | exact xdup2_fr hs h (fun st2 h1 q => hK _ _ _ _ _ _ hl h1 h0 q)
    | exact xpop_fr hs h (fun st2 h1 q => hK _ _ _ _ _ _ hl h1 h0 q)
    | exact xpop2_fr hs h (fun st2 h1 q => hK _ _ _ _ _ _ hl h1 h0 q)
    | exact xif_fr hs h (fun t st2 h1 q => hK _ _ _ _ _ _ hl h1 h0 q)
    | exact xic_fr hs h (fun t st2 h1 q => hK _ _ _ _ _ _ hl h1 h0 q)
    | exact xtg_fr h (fun t q => hK _ _ _ _ _ _ hl hs h0 q)
    | exact xtsw_fr hs h (fun t st2 h1 q => hK _ _ _ _ _ _ hl h1 h0 q)
    | exact xlsw_fr hs h (fun t st2 h1 q => hK _ _ _ _ _ _ hl h1 h0 q)
    | exact xgf_fr hs hc h (fun st2 h1 q => hK _ _ _ _ _ _ hl h1 h0 q)
    | exact xpf_fr hs hc hp (fun ci f e => (by simp only [wI, e] at hw; exact hw)) h (fun st2 S1 h1 h2 q => hK _ _ _ _ _ _ hl h1 h2 q)
    | exact xgs_fr h (fun v hv => sta_lt hv) (fun v hv q => hK _ _ _ _ _ _ hl (gS_c (v := .ref (1000000 + v)) (hD v hv) hs) h0 q)
    | exact xiald_fr hs h (fun st2 h1 q => hK _ _ _ _ _ _ hl h1 h0 q)
    | exact xbald_fr hs h (fun st2 h1 q => hK _ _ _ _ _ _ hl h1 h0 q)
    | exact xlald_fr hs h (fun st2 h1 q => hK _ _ _ _ _ _ hl h1 h0 q)
    | exact xaald_fr hs hc h (fun st2 h1 q => hK _ _ _ _ _ _ hl h1 h0 q)
    | exact xiast_fr hs hc ha h (fun st2 S1 h1 h2 q => hK _ _ _ _ _ _ hl h1 h2 q)
    | exact xlast_fr hs hc ha h (fun st2 S1 h1 h2 q => hK _ _ _ _ _ _ hl h1 h2 q)
    | exact xbast_fr hs hc ha h (fun st2 S1 h1 h2 q => hK _ _ _ _ _ _ hl h1 h2 q)
    | (exfalso; simp [wI] at hw; done)
    | exact xcl_fr hs hc (fun y2 na e => (by simp only [wI, e] at hw; exact hw)) hcall (fun e => hnd_no hy) h (fun st2 c2 q2 S1 h1 h2 q => hK _ _ _ _ _ _ hl h1 h2 q)
    | (split at h
       · split at h
         · exact xret_fr hs hc h
         · cases h
       · cases h)
    | (split at h
       · split at h
         · exact xrel_fr hs hc h
         · cases h
       · cases h)
    | (split at h
       · split at h
         · exact xrea_fr hs hc h
         · cases h
       · cases h)
    | (split at h
       · split at h
         · exact xrev_fr hs hc h
         · cases h
       · cases h)
    | (split at h
       · next hn => exfalso; simp [wI, hn] at hw
       · split at h
         · exact xthr_fr hc h
         · cases h)
    | (split at h
       · next hn => exfalso; simp [wI, hn] at hw
       · next hn =>
         have e : xc_spc (xc_own y) _ = none := (by simp only [wI, Bool.and_eq_true, Option.isNone_iff_eq_none] at hw; exact hw.2)
         rw [e] at h
         cases h)
    | (split at h
       · split at h
         · split at h
           · exact xmin_fr hs h (fun st2 h1 q => hK _ _ _ _ _ _ hl h1 h0 q)
           · cases h
         · cases h
       · exact xcl_fr hs hc (fun y2 na e => (by simp only [wI, e] at hw; exact hw)) hcall (fun e => hnd_no hy) h (fun st2 c2 q2 S1 h1 h2 q => hK _ _ _ _ _ _ hl h1 h2 q))
theorem xev_fr (hW : wAll Yb pf) (hD : ∀ v, v < 3 → D (1000000 + v)) : ∀ (n y pc : Nat) (lv : xL) (st : List Value) (c q : Nat) (S : xS) (r : xR), Yb y = true → gL D lv → gS D st → gC D S → gA D N S → gP D N pf S → xev n y pc lv st c q S = some r → gR D N S r := by
  intro n
  induction n with
  | zero => intro y pc lv st c q S r _ _ _ _ _ _ h; cases h
  | succ n ih =>
    intro y pc lv st c q S r hy hl hs hc ha hp h
    unfold xev at h
    split at h
    · next i hi =>
      refine xstep_fr (hW y hy).1 (xev_code hW hy hi) hD hl hs hc ha hp (fun pc lv st c q S1 h1 h2 h3 h4 => gR.w h3 (ih y pc lv st c q S1 r hy h1 h2 h3.2.1 (by unfold gA; rw [h3.2.2]; exact ha) (by unfold gP; rw [h3.2.2]; exact hp) h4)) (fun y2 as r2 h1 h2 h3 => ?_) h
      split at h3
      · exact ih y2 0 _ [] 0 0 S r2 h1 (gL_args as 0 h2) trivial hc ha hp h3
      · cases h3
    · cases h
/-- what must not change stays -/
theorem xF_fr {y : Nat} {as : List Value} {S : xS} {r : xR} (hW : wAll Yb pf) (hD : ∀ v, v < 3 → D (1000000 + v)) (hy : Yb y = true) (hs : gS D as) (hc : gC D S) (ha : gA D N S) (hp : gP D N pf S) (h : xF y as S r) : gR D N S r := by
  obtain ⟨n, hn⟩ := h
  unfold xmeth at hn
  split at hn
  · exact xev_fr hW hD n y 0 _ [] 0 0 S r hy (gL_args as 0 hs) trivial hc ha hp hn
  · cases hn
end GF
