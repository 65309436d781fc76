-- MORE FUEL CHANGES NOTHING: each piece of the evaluator
theorem xldI_mono {k k2 : Value → Option xR} {lv : xL} {i : Nat} {r : xR} (hk : ∀ t0, k t0 = some r → k2 t0 = some r) : xldI k lv i = some r → xldI k2 lv i = some r := by
  unfold xldI
  repeat' split
  all_goals first | exact id | exact hk _
theorem xldL_mono {k k2 : Value → Option xR} {lv : xL} {i : Nat} {r : xR} (hk : ∀ t0, k t0 = some r → k2 t0 = some r) : xldL k lv i = some r → xldL k2 lv i = some r := by
  unfold xldL
  repeat' split
  all_goals first | exact id | exact hk _
theorem xldA_mono {k k2 : Value → Option xR} {lv : xL} {i : Nat} {r : xR} (hk : ∀ t0, k t0 = some r → k2 t0 = some r) : xldA k lv i = some r → xldA k2 lv i = some r := by
  unfold xldA
  repeat' split
  all_goals first | exact id | exact hk _
theorem xstI_mono {k k2 : xL → List Value → Option xR} {lv : xL} {i nL : Nat} {st : List Value} {r : xR} (hk : ∀ t0 t1, k t0 t1 = some r → k2 t0 t1 = some r) : xstI k lv i nL st = some r → xstI k2 lv i nL st = some r := by
  unfold xstI
  repeat' split
  all_goals first | exact id | exact hk _ _
theorem xstL_mono {k k2 : xL → List Value → Option xR} {lv : xL} {i nL : Nat} {st : List Value} {r : xR} (hk : ∀ t0 t1, k t0 t1 = some r → k2 t0 t1 = some r) : xstL k lv i nL st = some r → xstL k2 lv i nL st = some r := by
  unfold xstL
  repeat' split
  all_goals first | exact id | exact hk _ _
theorem xstA_mono {k k2 : xL → List Value → Option xR} {lv : xL} {i nL : Nat} {st : List Value} {r : xR} (hk : ∀ t0 t1, k t0 t1 = some r → k2 t0 t1 = some r) : xstA k lv i nL st = some r → xstA k2 lv i nL st = some r := by
  unfold xstA
  repeat' split
  all_goals first | exact id | exact hk _ _
theorem xinc_mono {k k2 : xL → Option xR} {lv : xL} {i nL : Nat} {n : Int} {r : xR} (hk : ∀ t0, k t0 = some r → k2 t0 = some r) : xinc k lv i nL n = some r → xinc k2 lv i nL n = some r := by
  unfold xinc
  repeat' split
  all_goals first | exact id | exact hk _
theorem xbI_mono {k k2 : List Value → Option xR} {f : Int32 → Int32 → Int32} {st : List Value} {r : xR} (hk : ∀ t0, k t0 = some r → k2 t0 = some r) : xbI k f st = some r → xbI k2 f st = some r := by
  unfold xbI
  repeat' split
  all_goals first | exact id | exact hk _
theorem xbD_mono {k k2 : List Value → Option xR} {f : Int32 → Int32 → Int32} {st : List Value} {r : xR} (hk : ∀ t0, k t0 = some r → k2 t0 = some r) : xbD k f st = some r → xbD k2 f st = some r := by
  unfold xbD
  repeat' split
  all_goals first | exact id | exact hk _
theorem xbL_mono {k k2 : List Value → Option xR} {f : Int64 → Int64 → Int64} {st : List Value} {r : xR} (hk : ∀ t0, k t0 = some r → k2 t0 = some r) : xbL k f st = some r → xbL k2 f st = some r := by
  unfold xbL
  repeat' split
  all_goals first | exact id | exact hk _
theorem xbE_mono {k k2 : List Value → Option xR} {f : Int64 → Int64 → Int64} {st : List Value} {r : xR} (hk : ∀ t0, k t0 = some r → k2 t0 = some r) : xbE k f st = some r → xbE k2 f st = some r := by
  unfold xbE
  repeat' split
  all_goals first | exact id | exact hk _
theorem xbS_mono {k k2 : List Value → Option xR} {f : Int64 → Int32 → Int64} {st : List Value} {r : xR} (hk : ∀ t0, k t0 = some r → k2 t0 = some r) : xbS k f st = some r → xbS k2 f st = some r := by
  unfold xbS
  repeat' split
  all_goals first | exact id | exact hk _
theorem xbC_mono {k k2 : List Value → Option xR} {st : List Value} {r : xR} (hk : ∀ t0, k t0 = some r → k2 t0 = some r) : xbC k st = some r → xbC k2 st = some r := by
  unfold xbC
  repeat' split
  all_goals first | exact id | exact hk _
theorem xuI_mono {k k2 : List Value → Option xR} {f : Int32 → Value} {st : List Value} {r : xR} (hk : ∀ t0, k t0 = some r → k2 t0 = some r) : xuI k f st = some r → xuI k2 f st = some r := by
  unfold xuI
  repeat' split
  all_goals first | exact id | exact hk _
theorem xuL_mono {k k2 : List Value → Option xR} {f : Int64 → Value} {st : List Value} {r : xR} (hk : ∀ t0, k t0 = some r → k2 t0 = some r) : xuL k f st = some r → xuL k2 f st = some r := by
  unfold xuL
  repeat' split
  all_goals first | exact id | exact hk _
theorem xdup_mono {k k2 : List Value → Option xR} {st : List Value} {r : xR} (hk : ∀ t0, k t0 = some r → k2 t0 = some r) : xdup k st = some r → xdup k2 st = some r := by
  unfold xdup
  repeat' split
  all_goals first | exact id | exact hk _
theorem xdupx1_mono {k k2 : List Value → Option xR} {st : List Value} {r : xR} (hk : ∀ t0, k t0 = some r → k2 t0 = some r) : xdupx1 k st = some r → xdupx1 k2 st = some r := by
  unfold xdupx1
  repeat' split
  all_goals first | exact id | exact hk _
theorem xdupx2_mono {k k2 : List Value → Option xR} {st : List Value} {r : xR} (hk : ∀ t0, k t0 = some r → k2 t0 = some r) : xdupx2 k st = some r → xdupx2 k2 st = some r := by
  unfold xdupx2
  repeat' split
  all_goals first | exact id | exact hk _
theorem xdup2_mono {k k2 : List Value → Option xR} {st : List Value} {r : xR} (hk : ∀ t0, k t0 = some r → k2 t0 = some r) : xdup2 k st = some r → xdup2 k2 st = some r := by
  unfold xdup2
  repeat' split
  all_goals first | exact id | exact hk _
theorem xpop_mono {k k2 : List Value → Option xR} {st : List Value} {r : xR} (hk : ∀ t0, k t0 = some r → k2 t0 = some r) : xpop k st = some r → xpop k2 st = some r := by
  unfold xpop
  repeat' split
  all_goals first | exact id | exact hk _
theorem xpop2_mono {k k2 : List Value → Option xR} {st : List Value} {r : xR} (hk : ∀ t0, k t0 = some r → k2 t0 = some r) : xpop2 k st = some r → xpop2 k2 st = some r := by
  unfold xpop2
  repeat' split
  all_goals first | exact id | exact hk _
theorem xobj_mono {k k2 : List Value → Option xR} {st : List Value} {r : xR} (hk : ∀ t0, k t0 = some r → k2 t0 = some r) : xobj k st = some r → xobj k2 st = some r := by
  unfold xobj
  repeat' split
  all_goals first | exact id | exact hk _
theorem xmin_mono {k k2 : List Value → Option xR} {st : List Value} {r : xR} (hk : ∀ t0, k t0 = some r → k2 t0 = some r) : xmin k st = some r → xmin k2 st = some r := by
  unfold xmin
  repeat' split
  all_goals first | exact id | exact hk _
theorem xtg_mono {k k2 : Nat → Option xR} {pc : Nat} {off : Int} {r : xR} (hk : ∀ t0, k t0 = some r → k2 t0 = some r) : xtg k pc off = some r → xtg k2 pc off = some r := by
  unfold xtg
  repeat' split
  all_goals first | exact id | exact hk _
theorem xif_mono {k k2 : Nat → List Value → Option xR} {d : Jvm.ClassFile.Cond} {pc : Nat} {off : Int} {st : List Value} {r : xR} (hk : ∀ t0 t1, k t0 t1 = some r → k2 t0 t1 = some r) : xif k d pc off st = some r → xif k2 d pc off st = some r := by
  unfold xif
  repeat' split
  all_goals first | exact id | exact hk _ _
theorem xic_mono {k k2 : Nat → List Value → Option xR} {d : Jvm.ClassFile.Cond} {pc : Nat} {off : Int} {st : List Value} {r : xR} (hk : ∀ t0 t1, k t0 t1 = some r → k2 t0 t1 = some r) : xic k d pc off st = some r → xic k2 d pc off st = some r := by
  unfold xic
  repeat' split
  all_goals first | exact id | exact hk _ _
theorem xnul_mono {k k2 : Nat → List Value → Option xR} {pc : Nat} {off : Int} {st : List Value} {r : xR} (hk : ∀ t0 t1, k t0 t1 = some r → k2 t0 t1 = some r) : xnul k pc off st = some r → xnul k2 pc off st = some r := by
  unfold xnul
  repeat' split
  all_goals first | exact id | exact hk _ _ | exact xtg_mono (fun t => hk t _)
theorem xnnl_mono {k k2 : Nat → List Value → Option xR} {pc : Nat} {off : Int} {st : List Value} {r : xR} (hk : ∀ t0 t1, k t0 t1 = some r → k2 t0 t1 = some r) : xnnl k pc off st = some r → xnnl k2 pc off st = some r := by
  unfold xnnl
  repeat' split
  all_goals first | exact id | exact hk _ _ | exact xtg_mono (fun t => hk t _)
theorem xtsw_mono {k k2 : Nat → List Value → Option xR} {pc : Nat} {d lo hi : Int} {offs : Array Int} {st : List Value} {r : xR} (hk : ∀ t0 t1, k t0 t1 = some r → k2 t0 t1 = some r) : xtsw k pc d lo hi offs st = some r → xtsw k2 pc d lo hi offs st = some r := by
  unfold xtsw
  repeat' split
  all_goals first | exact id | exact hk _ _ | exact xtg_mono (fun t => hk t _)
theorem xlsw_mono {k k2 : Nat → List Value → Option xR} {pc : Nat} {d : Int} {ps : Array (Int × Int)} {st : List Value} {r : xR} (hk : ∀ t0 t1, k t0 t1 = some r → k2 t0 t1 = some r) : xlsw k pc d ps st = some r → xlsw k2 pc d ps st = some r := by
  unfold xlsw
  repeat' split
  all_goals first | exact id | exact hk _ _ | exact xtg_mono (fun t => hk t _)
theorem xgf_mono {k k2 : List Value → Option xR} {ob : Option (Nat × Nat)} {S : xS} {st : List Value} {r : xR} (hk : ∀ t0, k t0 = some r → k2 t0 = some r) : xgf k ob S st = some r → xgf k2 ob S st = some r := by
  unfold xgf
  repeat' split
  all_goals first | exact id | exact hk _
theorem xpf_mono {k k2 : List Value → xS → Option xR} {ob : Option (Nat × Nat)} {may : Nat → Nat → Bool} {S : xS} {st : List Value} {r : xR} (hk : ∀ t0 t1, k t0 t1 = some r → k2 t0 t1 = some r) : xpf k ob may S st = some r → xpf k2 ob may S st = some r := by
  unfold xpf
  repeat' split
  all_goals first | exact id | exact hk _ _
theorem xiald_mono {k k2 : List Value → Option xR} {S : xS} {st : List Value} {r : xR} (hk : ∀ t0, k t0 = some r → k2 t0 = some r) : xiald k S st = some r → xiald k2 S st = some r := by
  unfold xiald
  repeat' split
  all_goals first | exact id | exact hk _
theorem xlald_mono {k k2 : List Value → Option xR} {S : xS} {st : List Value} {r : xR} (hk : ∀ t0, k t0 = some r → k2 t0 = some r) : xlald k S st = some r → xlald k2 S st = some r := by
  unfold xlald
  repeat' split
  all_goals first | exact id | exact hk _
theorem xbald_mono {k k2 : List Value → Option xR} {S : xS} {st : List Value} {r : xR} (hk : ∀ t0, k t0 = some r → k2 t0 = some r) : xbald k S st = some r → xbald k2 S st = some r := by
  unfold xbald
  repeat' split
  all_goals first | exact id | exact hk _
theorem xaald_mono {k k2 : List Value → Option xR} {S : xS} {st : List Value} {r : xR} (hk : ∀ t0, k t0 = some r → k2 t0 = some r) : xaald k S st = some r → xaald k2 S st = some r := by
  unfold xaald
  repeat' split
  all_goals first | exact id | exact hk _
theorem xiast_mono {k k2 : List Value → xS → Option xR} {S : xS} {st : List Value} {r : xR} (hk : ∀ t0 t1, k t0 t1 = some r → k2 t0 t1 = some r) : xiast k S st = some r → xiast k2 S st = some r := by
  unfold xiast
  repeat' split
  all_goals first | exact id | exact hk _ _
theorem xlast_mono {k k2 : List Value → xS → Option xR} {S : xS} {st : List Value} {r : xR} (hk : ∀ t0 t1, k t0 t1 = some r → k2 t0 t1 = some r) : xlast k S st = some r → xlast k2 S st = some r := by
  unfold xlast
  repeat' split
  all_goals first | exact id | exact hk _ _
theorem xbast_mono {k k2 : List Value → xS → Option xR} {S : xS} {st : List Value} {r : xR} (hk : ∀ t0 t1, k t0 t1 = some r → k2 t0 t1 = some r) : xbast k S st = some r → xbast k2 S st = some r := by
  unfold xbast
  repeat' split
  all_goals first | exact id | exact hk _ _
theorem xaast_mono {k k2 : List Value → xS → Option xR} {S : xS} {st : List Value} {r : xR} (hk : ∀ t0 t1, k t0 t1 = some r → k2 t0 t1 = some r) : xaast k S st = some r → xaast k2 S st = some r := by
  unfold xaast
  repeat' split
  all_goals first | exact id | exact hk _ _
theorem xnewo_mono {k k2 : Nat → Nat → xS → Option xR} {ob : Option Nat} {mc ms c q : Nat} {S : xS} {r : xR} (hk : ∀ t0 t1 t2, k t0 t1 t2 = some r → k2 t0 t1 t2 = some r) : xnewo k ob mc ms c q S = some r → xnewo k2 ob mc ms c q S = some r := by
  unfold xnewo
  repeat' split
  all_goals first | exact id | exact hk _ _ _
theorem xnewa_mono {k k2 : List Value → Nat → Nat → xS → Option xR} {ob : Option Nat} {mc ms c q : Nat} {S : xS} {st : List Value} {r : xR} (hk : ∀ t0 t1 t2 t3, k t0 t1 t2 t3 = some r → k2 t0 t1 t2 t3 = some r) : xnewa k ob mc ms c q S st = some r → xnewa k2 ob mc ms c q S st = some r := by
  unfold xnewa
  repeat' split
  all_goals first | exact id | exact hk _ _ _ _
theorem xlc_mono {k k2 : Int32 → Option xR} {ob : Option Int32} {r : xR} (hk : ∀ t0, k t0 = some r → k2 t0 = some r) : xlc k ob = some r → xlc k2 ob = some r := by
  unfold xlc
  repeat' split
  all_goals first | exact id | exact hk _
theorem xlc2_mono {k k2 : Int64 → Option xR} {ob : Option Int64} {r : xR} (hk : ∀ t0, k t0 = some r → k2 t0 = some r) : xlc2 k ob = some r → xlc2 k2 ob = some r := by
  unfold xlc2
  repeat' split
  all_goals first | exact id | exact hk _
theorem xgs_mono {k k2 : Nat → Option xR} {ob : Option Nat} {r : xR} (hk : ∀ t0, k t0 = some r → k2 t0 = some r) : xgs k ob = some r → xgs k2 ob = some r := by
  unfold xgs
  repeat' split
  all_goals first | exact id | exact hk _
theorem xcl_mono {k kk : List Value → Nat → Nat → xS → Option xR} {k2 kk2 : Nat → List Value → Nat → Nat → xS → Option xR} {hd : Nat → Option Nat} {call call2 : Nat → List Value → xS → Option xR} {ob : Option (Nat × Nat)} {lev mc ms c q : Nat} {S : xS} {st : List Value} {r : xR} (hk : ∀ t0 t1 t2 t3, k t0 t1 t2 t3 = some r → kk t0 t1 t2 t3 = some r) (hk2 : ∀ t0 t1 t2 t3 t4, k2 t0 t1 t2 t3 t4 = some r → kk2 t0 t1 t2 t3 t4 = some r) (hc : ∀ y as S r, call y as S = some r → call2 y as S = some r) (h : xcl k k2 hd call ob lev mc ms c q S st = some r) : xcl kk kk2 hd call2 ob lev mc ms c q S st = some r := by
  unfold xcl at h ⊢
  split at h
  · next y na =>
    split at h
    · next c1 =>
      split at h
      · next c2 =>
        split at h
        · next c3 =>
          split at h
          · next c4 =>
            split at h
            · next c5 =>
              split at h
              · next c6 =>
                split at h
                · next v S1 hv =>
                  simp only [if_pos c1, if_pos c2, if_pos c3, if_pos c4, if_pos c5, if_pos c6, hc _ _ _ _ hv]
                  exact hk _ _ _ _ h
                · next ex S1 hv =>
                  split at h
                  · next t ht =>
                    split at h
                    · next c7 =>
                      simp only [if_pos c1, if_pos c2, if_pos c3, if_pos c4, if_pos c5, if_pos c6, hc _ _ _ _ hv, ht, if_pos c7]
                      exact hk2 _ _ _ _ _ h
                    · cases h
                  · cases h
                · cases h
              · cases h
            · cases h
          · cases h
        · cases h
      · cases h
    · cases h
  · cases h
set_option maxHeartbeats 4000000 in
theorem xstep_mono {K K2 : xK} {call call2 : Nat → List Value → xS → Option xR} {y pc : Nat} {i : Instr} {lv : xL} {st : List Value} {c q : Nat} {S : xS} {r : xR} (hK : ∀ pc lv st c q S, K pc lv st c q S = some r → K2 pc lv st c q S = some r) (hc : ∀ y as S r, call y as S = some r → call2 y as S = some r) : xstep K call y pc i lv st c q S = some r → xstep K2 call2 y pc i lv st c q S = some r := by
  unfold xstep
  split
  all_goals first
    | exact id
    | exact hK _ _ _ _ _ _
    | exact xlc_mono (fun _ => hK _ _ _ _ _ _) | exact xlc2_mono (fun _ => hK _ _ _ _ _ _)
    | exact xldI_mono (fun _ => hK _ _ _ _ _ _) | exact xldL_mono (fun _ => hK _ _ _ _ _ _) | exact xldA_mono (fun _ => hK _ _ _ _ _ _)
    | exact xstI_mono (fun _ _ => hK _ _ _ _ _ _) | exact xstL_mono (fun _ _ => hK _ _ _ _ _ _) | exact xstA_mono (fun _ _ => hK _ _ _ _ _ _)
    | exact xinc_mono (fun _ => hK _ _ _ _ _ _)
    | exact xbI_mono (fun _ => hK _ _ _ _ _ _) | exact xbD_mono (fun _ => hK _ _ _ _ _ _) | exact xbL_mono (fun _ => hK _ _ _ _ _ _) | exact xbE_mono (fun _ => hK _ _ _ _ _ _) | exact xbS_mono (fun _ => hK _ _ _ _ _ _) | exact xbC_mono (fun _ => hK _ _ _ _ _ _)
    | exact xuI_mono (fun _ => hK _ _ _ _ _ _) | exact xuL_mono (fun _ => hK _ _ _ _ _ _)
    | exact xdup_mono (fun _ => hK _ _ _ _ _ _) | exact xdupx1_mono (fun _ => hK _ _ _ _ _ _) | exact xdupx2_mono (fun _ => hK _ _ _ _ _ _) | exact xdup2_mono (fun _ => hK _ _ _ _ _ _) | exact xpop_mono (fun _ => hK _ _ _ _ _ _) | exact xpop2_mono (fun _ => hK _ _ _ _ _ _)
    | exact xif_mono (fun _ _ => hK _ _ _ _ _ _) | exact xic_mono (fun _ _ => hK _ _ _ _ _ _) | exact xnul_mono (fun _ _ => hK _ _ _ _ _ _) | exact xnnl_mono (fun _ _ => hK _ _ _ _ _ _) | exact xtg_mono (fun _ => hK _ _ _ _ _ _) | exact xtsw_mono (fun _ _ => hK _ _ _ _ _ _) | exact xlsw_mono (fun _ _ => hK _ _ _ _ _ _)
    | exact xgf_mono (fun _ => hK _ _ _ _ _ _) | exact xpf_mono (fun _ _ => hK _ _ _ _ _ _) | exact xgs_mono (fun _ => hK _ _ _ _ _ _)
    | exact xiald_mono (fun _ => hK _ _ _ _ _ _) | exact xlald_mono (fun _ => hK _ _ _ _ _ _) | exact xbald_mono (fun _ => hK _ _ _ _ _ _) | exact xaald_mono (fun _ => hK _ _ _ _ _ _)
    | exact xiast_mono (fun _ _ => hK _ _ _ _ _ _) | exact xlast_mono (fun _ _ => hK _ _ _ _ _ _) | exact xbast_mono (fun _ _ => hK _ _ _ _ _ _) | exact xaast_mono (fun _ _ => hK _ _ _ _ _ _)
    | exact xnewa_mono (fun _ _ _ _ => hK _ _ _ _ _ _)
    | exact xcl_mono (fun _ _ _ _ => hK _ _ _ _ _ _) (fun _ _ _ _ _ => hK _ _ _ _ _ _) hc
    | (split <;> first | exact id | exact xnewo_mono (fun _ _ _ => hK _ _ _ _ _ _) | (split <;> exact id) | exact xobj_mono (fun _ => hK _ _ _ _ _ _) | exact xcl_mono (fun _ _ _ _ => hK _ _ _ _ _ _) (fun _ _ _ _ _ => hK _ _ _ _ _ _) hc | (repeat' split) <;> first | exact id | exact xmin_mono (fun _ => hK _ _ _ _ _ _))
theorem xev_succ : ∀ (n y pc : Nat) (lv : xL) (st : List Value) (c q : Nat) (S : xS) (r : xR), xev n y pc lv st c q S = some r → xev (n + 1) y pc lv st c q S = some r := by
  intro n
  induction n with
  | zero => intro y pc lv st c q S r h; cases h
  | succ n ih =>
    intro y pc lv st c q S r h
    unfold xev at h ⊢
    split at h
    · next i hi =>
      refine xstep_mono (fun pc lv st c q S => ih y pc lv st c q S r) (fun y2 as S2 r2 h2 => ?_) h
      split at h2
      · next hl =>
        rw [if_pos hl]
        exact ih _ _ _ _ _ _ _ _ h2
      · cases h2
    · cases h
theorem xev_mono {n k y pc : Nat} {lv : xL} {st : List Value} {c q : Nat} {S : xS} {r : xR} (hk : n ≤ k) (h : xev n y pc lv st c q S = some r) : xev k y pc lv st c q S = some r := by
  obtain ⟨d, rfl⟩ := Nat.exists_eq_add_of_le hk
  induction d with
  | zero => exact h
  | succ d ih => exact xev_succ _ _ _ _ _ _ _ _ _ (ih (by omega))
