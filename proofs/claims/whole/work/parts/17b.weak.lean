-- MORE LOCALS CHANGE NOTHING
def xnd (lv : xL) : Prop := (lv.map Prod.fst).Nodup
def xle (lv lv2 : xL) : Prop := ∀ i v, xld lv i = some v → xld lv2 i = some v
theorem xld_cons (k : Nat) (v : Value) (t : xL) (j : Nat) : xld ((k, v) :: t) j = if k = j then some v else xld t j := by
  unfold xld
  by_cases h : k = j
  · subst h; simp
  · simp [h]
theorem xle_nil (lv2 : xL) : xle [] lv2 := fun i v h => by cases h
theorem xle_cons {k : Nat} {v : Value} {t lv2 : xL} (h : xld lv2 k = some v) (ht : xle t lv2) : xle ((k, v) :: t) lv2 := by
  intro i w hi
  rw [xld_cons] at hi
  split at hi
  · next e => cases hi; rw [← e]; exact h
  · exact ht i w hi
theorem xld_mem2 {lv : xL} (hn : xnd lv) {j : Nat} {w : Value} (h : (j, w) ∈ lv) : xld lv j = some w := by
  induction lv with
  | nil => cases h
  | cons q t ih =>
    obtain ⟨k, v⟩ := q
    have hn2 : k ∉ t.map Prod.fst ∧ (t.map Prod.fst).Nodup := List.nodup_cons.mp hn
    rw [xld_cons]
    rcases List.mem_cons.mp h with h | h
    · cases h; simp
    · have e : ¬ k = j := fun e => hn2.1 (by rw [e]; exact List.mem_map.mpr ⟨(j, w), h, rfl⟩)
      rw [if_neg e]
      exact ih hn2.2 h
theorem xle_filter {lv lv2 : xL} (hn : xnd lv) (h : xle lv lv2) (p : Nat × Value → Bool) {j : Nat} {w : Value} (hj : xld (lv.filter p) j = some w) : xld (lv2.filter p) j = some w := by
  have hm := xld_mem hj
  obtain ⟨hm1, hp⟩ := List.mem_filter.mp hm
  have h2 := h j w (xld_mem2 hn hm1)
  clear hj hm hm1 h hn lv
  induction lv2 with
  | nil => cases h2
  | cons q t ih =>
    obtain ⟨k, v⟩ := q
    rw [xld_cons] at h2
    by_cases e : k = j
    · rw [if_pos e] at h2
      cases h2
      subst e
      rw [List.filter_cons, if_pos hp, xld_cons, if_pos rfl]
    · rw [if_neg e] at h2
      rw [List.filter_cons]
      split
      · rw [xld_cons, if_neg e]
        exact ih h2
      · exact ih h2
theorem xnd_filter {lv : xL} (hn : xnd lv) (p : Nat × Value → Bool) : xnd (lv.filter p) := List.Nodup.sublist (List.Sublist.map _ List.filter_sublist) hn
theorem xst_le {lv lv2 : xL} (hn : xnd lv) (h : xle lv lv2) (p : Nat × Value → Bool) (i : Nat) (v : Value) : xle ((i, v) :: lv.filter p) ((i, v) :: lv2.filter p) := by
  intro j w hj
  rw [xld_cons] at hj ⊢
  split
  · next e => rw [if_pos e] at hj; exact hj
  · next e => rw [if_neg e] at hj; exact xle_filter hn h p hj
theorem xst_nd {lv : xL} (hn : xnd lv) (p : Nat × Value → Bool) (i : Nat) (v : Value) (hp : ∀ w, p (i, w) = false) : xnd ((i, v) :: lv.filter p) := by
  refine List.nodup_cons.mpr ⟨fun hm => ?_, xnd_filter hn p⟩
  obtain ⟨q, hq, e⟩ := List.mem_map.mp hm
  obtain ⟨k, w⟩ := q
  have e2 : k = i := e
  subst e2
  have := (List.mem_filter.mp hq).2
  rw [hp] at this
  cases this
theorem xst1_le {lv lv2 : xL} (hn : xnd lv) (h : xle lv lv2) (i : Nat) (v : Value) : xle (xst1 lv i v) (xst1 lv2 i v) := xst_le hn h _ i v
theorem xst1_nd {lv : xL} (hn : xnd lv) (i : Nat) (v : Value) : xnd (xst1 lv i v) := xst_nd hn _ i v (fun w => by simp)
theorem xst2_le {lv lv2 : xL} (hn : xnd lv) (h : xle lv lv2) (i : Nat) (v : Value) : xle (xst2 lv i v) (xst2 lv2 i v) := xst_le hn h _ i v
theorem xst2_nd {lv : xL} (hn : xnd lv) (i : Nat) (v : Value) : xnd (xst2 lv i v) := xst_nd hn _ i v (fun w => by simp)
theorem xldI_weak {k k2 : Value → Option xR} {lv lv2 : xL} {i : Nat} {r : xR} (hle : xle lv lv2) (hk : ∀ t0, k t0 = some r → k2 t0 = some r) (h : xldI k lv i = some r) : xldI k2 lv2 i = some r := by
  unfold xldI at h ⊢
  split at h
  · next hx =>
    rw [hle _ _ hx]
    exact hk _ h
  · cases h
theorem xldL_weak {k k2 : Value → Option xR} {lv lv2 : xL} {i : Nat} {r : xR} (hle : xle lv lv2) (hk : ∀ t0, k t0 = some r → k2 t0 = some r) (h : xldL k lv i = some r) : xldL k2 lv2 i = some r := by
  unfold xldL at h ⊢
  split at h
  · next hx =>
    rw [hle _ _ hx]
    exact hk _ h
  · cases h
theorem xldA_weak {k k2 : Value → Option xR} {lv lv2 : xL} {i : Nat} {r : xR} (hle : xle lv lv2) (hk : ∀ t0, k t0 = some r → k2 t0 = some r) (h : xldA k lv i = some r) : xldA k2 lv2 i = some r := by
  unfold xldA at h ⊢
  split at h
  · next hx =>
    rw [hle _ _ hx]
    exact hk _ h
  · next hx =>
    rw [hle _ _ hx]
    exact hk _ h
  · cases h
theorem xstI_weak {k k2 : xL → List Value → Option xR} {lv lv2 : xL} {i nL : Nat} {st : List Value} {r : xR} (hle : xle lv lv2) (hnd : xnd lv) (hk : ∀ t0 t1 t2, xle t0 t1 → xnd t0 → k t0 t2 = some r → k2 t1 t2 = some r) (h : xstI k lv i nL st = some r) : xstI k2 lv2 i nL st = some r := by
  unfold xstI at h ⊢
  split at h
  · split at h
    · next hi =>
      simp only [if_pos hi]
      exact hk _ _ _ (xst1_le hnd hle _ _) (xst1_nd hnd _ _) h
    · cases h
  · cases h
theorem xstL_weak {k k2 : xL → List Value → Option xR} {lv lv2 : xL} {i nL : Nat} {st : List Value} {r : xR} (hle : xle lv lv2) (hnd : xnd lv) (hk : ∀ t0 t1 t2, xle t0 t1 → xnd t0 → k t0 t2 = some r → k2 t1 t2 = some r) (h : xstL k lv i nL st = some r) : xstL k2 lv2 i nL st = some r := by
  unfold xstL at h ⊢
  split at h
  · split at h
    · next hi =>
      simp only [if_pos hi]
      exact hk _ _ _ (xst2_le hnd hle _ _) (xst2_nd hnd _ _) h
    · cases h
  · cases h
theorem xstA_weak {k k2 : xL → List Value → Option xR} {lv lv2 : xL} {i nL : Nat} {st : List Value} {r : xR} (hle : xle lv lv2) (hnd : xnd lv) (hk : ∀ t0 t1 t2, xle t0 t1 → xnd t0 → k t0 t2 = some r → k2 t1 t2 = some r) (h : xstA k lv i nL st = some r) : xstA k2 lv2 i nL st = some r := by
  unfold xstA at h ⊢
  split at h
  · split at h
    · next hi =>
      simp only [if_pos hi]
      exact hk _ _ _ (xst1_le hnd hle _ _) (xst1_nd hnd _ _) h
    · cases h
  · split at h
    · next hi =>
      simp only [if_pos hi]
      exact hk _ _ _ (xst1_le hnd hle _ _) (xst1_nd hnd _ _) h
    · cases h
  · cases h
theorem xinc_weak {k k2 : xL → Option xR} {lv lv2 : xL} {i nL : Nat} {n : Int} {r : xR} (hle : xle lv lv2) (hnd : xnd lv) (hk : ∀ t0 t1, xle t0 t1 → xnd t0 → k t0 = some r → k2 t1 = some r) (h : xinc k lv i nL n = some r) : xinc k2 lv2 i nL n = some r := by
  unfold xinc at h ⊢
  split at h
  · next hx =>
    rw [hle _ _ hx]
    split at h
    · next hi =>
      simp only [if_pos hi]
      exact hk _ _ (xst1_le hnd hle _ _) (xst1_nd hnd _ _) h
    · cases h
  · cases h
set_option maxHeartbeats 4000000 in
theorem xstep_weak {K K2 : xK} {call : Nat → List Value → xS → Option xR} {y pc : Nat} {i : Instr} {lv lv2 : xL} {st : List Value} {c q : Nat} {S : xS} {r : xR} (hK : ∀ pc lv lv2 st c q S, xle lv lv2 → xnd lv → K pc lv st c q S = some r → K2 pc lv2 st c q S = some r) (hle : xle lv lv2) (hnd : xnd lv) : xstep K call y pc i lv st c q S = some r → xstep K2 call y pc i lv2 st c q S = some r := by
  unfold xstep
  split
  all_goals first
    | exact id
    | exact hK _ _ _ _ _ _ _ hle hnd
    | exact xlc_mono (fun _ => hK _ _ _ _ _ _ _ hle hnd) | exact xlc2_mono (fun _ => hK _ _ _ _ _ _ _ hle hnd)
    | exact xldI_weak hle (fun _ => hK _ _ _ _ _ _ _ hle hnd) | exact xldL_weak hle (fun _ => hK _ _ _ _ _ _ _ hle hnd) | exact xldA_weak hle (fun _ => hK _ _ _ _ _ _ _ hle hnd)
    | exact xstI_weak hle hnd (fun _ _ _ h1 h2 => hK _ _ _ _ _ _ _ h1 h2) | exact xstL_weak hle hnd (fun _ _ _ h1 h2 => hK _ _ _ _ _ _ _ h1 h2) | exact xstA_weak hle hnd (fun _ _ _ h1 h2 => hK _ _ _ _ _ _ _ h1 h2)
    | exact xinc_weak hle hnd (fun _ _ h1 h2 => hK _ _ _ _ _ _ _ h1 h2)
    | exact xbI_mono (fun _ => hK _ _ _ _ _ _ _ hle hnd) | exact xbD_mono (fun _ => hK _ _ _ _ _ _ _ hle hnd) | exact xbL_mono (fun _ => hK _ _ _ _ _ _ _ hle hnd) | exact xbE_mono (fun _ => hK _ _ _ _ _ _ _ hle hnd) | exact xbS_mono (fun _ => hK _ _ _ _ _ _ _ hle hnd) | exact xbC_mono (fun _ => hK _ _ _ _ _ _ _ hle hnd)
    | exact xuI_mono (fun _ => hK _ _ _ _ _ _ _ hle hnd) | exact xuL_mono (fun _ => hK _ _ _ _ _ _ _ hle hnd)
    | exact xdup_mono (fun _ => hK _ _ _ _ _ _ _ hle hnd) | exact xdupx1_mono (fun _ => hK _ _ _ _ _ _ _ hle hnd) | exact xdupx2_mono (fun _ => hK _ _ _ _ _ _ _ hle hnd) | exact xdup2_mono (fun _ => hK _ _ _ _ _ _ _ hle hnd) | exact xpop_mono (fun _ => hK _ _ _ _ _ _ _ hle hnd) | exact xpop2_mono (fun _ => hK _ _ _ _ _ _ _ hle hnd)
    | exact xif_mono (fun _ _ => hK _ _ _ _ _ _ _ hle hnd) | exact xic_mono (fun _ _ => hK _ _ _ _ _ _ _ hle hnd) | exact xnul_mono (fun _ _ => hK _ _ _ _ _ _ _ hle hnd) | exact xnnl_mono (fun _ _ => hK _ _ _ _ _ _ _ hle hnd) | exact xtg_mono (fun _ => hK _ _ _ _ _ _ _ hle hnd) | exact xtsw_mono (fun _ _ => hK _ _ _ _ _ _ _ hle hnd) | exact xlsw_mono (fun _ _ => hK _ _ _ _ _ _ _ hle hnd)
    | exact xgf_mono (fun _ => hK _ _ _ _ _ _ _ hle hnd) | exact xpf_mono (fun _ _ => hK _ _ _ _ _ _ _ hle hnd) | exact xgs_mono (fun _ => hK _ _ _ _ _ _ _ hle hnd)
    | exact xiald_mono (fun _ => hK _ _ _ _ _ _ _ hle hnd) | exact xlald_mono (fun _ => hK _ _ _ _ _ _ _ hle hnd) | exact xbald_mono (fun _ => hK _ _ _ _ _ _ _ hle hnd) | exact xaald_mono (fun _ => hK _ _ _ _ _ _ _ hle hnd)
    | exact xiast_mono (fun _ _ => hK _ _ _ _ _ _ _ hle hnd) | exact xlast_mono (fun _ _ => hK _ _ _ _ _ _ _ hle hnd) | exact xbast_mono (fun _ _ => hK _ _ _ _ _ _ _ hle hnd) | exact xaast_mono (fun _ _ => hK _ _ _ _ _ _ _ hle hnd)
    | exact xnewa_mono (fun _ _ _ _ => hK _ _ _ _ _ _ _ hle hnd)
    | exact xcl_mono (fun _ _ _ _ => hK _ _ _ _ _ _ _ hle hnd) (fun _ _ _ _ _ => hK _ _ _ _ _ _ _ hle hnd) (fun _ _ _ _ h => h)
    | (split <;> first | exact id | exact xnewo_mono (fun _ _ _ => hK _ _ _ _ _ _ _ hle hnd) | (split <;> exact id) | exact xobj_mono (fun _ => hK _ _ _ _ _ _ _ hle hnd) | exact xcl_mono (fun _ _ _ _ => hK _ _ _ _ _ _ _ hle hnd) (fun _ _ _ _ _ => hK _ _ _ _ _ _ _ hle hnd) (fun _ _ _ _ h => h) | (repeat' split) <;> first | exact id | exact xmin_mono (fun _ => hK _ _ _ _ _ _ _ hle hnd))
theorem xev_weak : ∀ (n y pc : Nat) (lv lv2 : xL) (st : List Value) (c q : Nat) (S : xS) (r : xR), xle lv lv2 → xnd lv → xev n y pc lv st c q S = some r → xev n y pc lv2 st c q S = some r := by
  intro n
  induction n with
  | zero => intro y pc lv lv2 st c q S r _ _ h; cases h
  | succ n ih =>
    intro y pc lv lv2 st c q S r hle hnd h
    unfold xev at h ⊢
    split at h
    · next i hi => exact xstep_weak (fun pc lv lv2 st c q S h1 h2 => ih y pc lv lv2 st c q S r h1 h2) hle hnd h
    · cases h
