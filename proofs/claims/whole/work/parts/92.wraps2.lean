-- WHAT A METHOD GIVES BACK
def Tr (y : Nat) (r : xR) : Prop := ∀ v, r.1 = .inr (some v) → (xc_ret y = 1 → ∃ x, v = .int x) ∧ (xc_ret y = 3 → ∃ x, v = .long x)
def dT (_ : Nat) : Prop := True
def nT (_ _ : Nat) : Prop := False
theorem gV_T (v : Value) : gV dT v := by
  unfold gV
  split <;> trivial
theorem gS_T (st : List Value) : gS dT st := (gS_iff st).mpr (fun v _ => gV_T v)
theorem gL_T (lv : xL) : gL dT lv := fun q _ => gV_T q.2
theorem gC_T (S : xS) : gC dT S := fun _ _ _ _ _ _ => trivial
theorem gA_T (S : xS) : gA dT nT S := fun _ _ _ _ _ _ h => h
theorem gP_T (pf : Nat → Nat → Bool) (S : xS) : gP dT nT pf S := fun _ _ _ _ _ _ h => h
section RT
variable {y : Nat} {S : xS} {st : List Value} {r : xR}
theorem xret_rt (h : xret y S st = some r) : Tr y r := by
  unfold xret at h
  split at h
  · split at h
    · next hy => cases h; exact fun v e => (by cases e; exact ⟨fun _ => ⟨_, rfl⟩, fun q => (by omega)⟩)
    · split at h
      · split at h
        · next hy _ => cases h; exact fun v e => (by cases e; exact ⟨fun _ => ⟨_, rfl⟩, fun q => (by omega)⟩)
        · cases h
      · cases h
  · cases h
theorem xrel_rt (h : xrel y S st = some r) : Tr y r := by
  unfold xrel at h
  split at h
  · split at h
    · next hy => cases h; exact fun v e => (by cases e; exact ⟨fun q => (by omega), fun _ => ⟨_, rfl⟩⟩)
    · cases h
  · cases h
theorem xrea_rt (h : xrea y S st = some r) : Tr y r := by
  unfold xrea at h
  split at h
  · split at h
    · next hy => cases h; exact fun v e => ⟨fun q => (by omega), fun q => (by omega)⟩
    · cases h
  · cases h
theorem xrev_rt (h : xrev y S st = some r) : Tr y r := by
  unfold xrev at h
  split at h
  · split at h
    · cases h; exact fun v e => (by cases e)
    · cases h
  · cases h
theorem xthr_rt {x : Option (Nat × Nat)} {pc mc ms c q : Nat} (h : xthr x y pc mc ms c q S = some r) : Tr y r := by
  unfold xthr at h
  split at h
  · split at h
    · split at h
      · split at h
        · cases h
          exact fun v e => (by cases e)
        · cases h
      · cases h
    · cases h
  · cases h
theorem xstep_rt {K : xK} {call : Nat → List Value → xS → Option xR} {pc : Nat} {i : Instr} {lv : xL} {c q : Nat} (hy : y < 173) (hw : wI yM pM y i = true) (hK0 : ∀ pc lv st c q S1, K pc lv st c q S1 = some r → Tr y r) (hcall : ∀ y2 as r2, yM y2 = true → gS dT as → call y2 as S = some r2 → gR dT nT S r2) : xstep K call y pc i lv st c q S = some r → Tr y r := by
  have hD : ∀ v, v < 3 → dT (1000000 + v) := fun _ _ => trivial
  have hl := gL_T lv
  have hs := gS_T st
  have hc := gC_T S
  have ha := gA_T S
  have hp := gP_T pM S
  have hK : ∀ pc lv st c q S1, gL dT lv → gS dT st → gW dT nT S S1 → K pc lv st c q S1 = some r → Tr y r := fun pc lv st c q S1 _ _ _ h => hK0 pc lv st c q S1 h
  have h0 := gW.rfl' (N := nT) hc
  unfold xstep
  split
  all_goals intro h
  all_goals first
    | (cases h; done)
    | exact hK _ _ _ _ _ _ hl (gS_c (by trivial) hs) h0 h
    | exact hK _ _ _ _ _ _ hl hs h0 h
    | exact xlc2_fr h (fun v q => hK _ _ _ _ _ _ hl (gS_c (by trivial) hs) h0 q)
    | exact xldI_fr (D := dT) h (fun v hv q => hK _ _ _ _ _ _ hl (gS_c hv hs) h0 q)
    | exact xldL_fr (D := dT) h (fun v hv q => hK _ _ _ _ _ _ hl (gS_c hv hs) h0 q)
    | exact xldA_fr hl h (fun v hv q => hK _ _ _ _ _ _ hl (gS_c hv hs) h0 q)
    | exact xstI_fr hl hs h (fun lv2 st2 h1 h2 q => hK _ _ _ _ _ _ h1 h2 h0 q)
    | exact xstL_fr hl hs h (fun lv2 st2 h1 h2 q => hK _ _ _ _ _ _ h1 h2 h0 q)
    | exact xstA_fr hl hs h (fun lv2 st2 h1 h2 q => hK _ _ _ _ _ _ h1 h2 h0 q)
    | exact xinc_fr hl h (fun lv2 h1 q => hK _ _ _ _ _ _ h1 hs h0 q)
    | exact xbI_fr hs h (fun st2 h1 q => hK _ _ _ _ _ _ hl h1 h0 q)
    | exact xbD_fr hs h (fun st2 h1 q => hK _ _ _ _ _ _ hl h1 h0 q)
    | exact xbL_fr hs h (fun st2 h1 q => hK _ _ _ _ _ _ hl h1 h0 q)
    | exact xbE_fr hs h (fun st2 h1 q => hK _ _ _ _ _ _ hl h1 h0 q)
    | exact xbS_fr hs h (fun st2 h1 q => hK _ _ _ _ _ _ hl h1 h0 q)
    | exact xbC_fr hs h (fun st2 h1 q => hK _ _ _ _ _ _ hl h1 h0 q)
    | exact xuI_fr hs (fun _ => (by trivial)) h (fun st2 h1 q => hK _ _ _ _ _ _ hl h1 h0 q)
    | exact xuL_fr hs (fun _ => (by trivial)) h (fun st2 h1 q => hK _ _ _ _ _ _ hl h1 h0 q)
    | exact xdup_fr hs h (fun st2 h1 q => hK _ _ _ _ _ _ hl h1 h0 q)
    | exact xdup2_fr hs h (fun st2 h1 q => hK _ _ _ _ _ _ hl h1 h0 q)
    | exact xpop_fr hs h (fun st2 h1 q => hK _ _ _ _ _ _ hl h1 h0 q)
    | exact xpop2_fr hs h (fun st2 h1 q => hK _ _ _ _ _ _ hl h1 h0 q)
    | exact xif_fr hs h (fun t st2 h1 q => hK _ _ _ _ _ _ hl h1 h0 q)
    | exact xic_fr hs h (fun t st2 h1 q => hK _ _ _ _ _ _ hl h1 h0 q)
    | exact xtg_fr h (fun t q => hK _ _ _ _ _ _ hl hs h0 q)
    | exact xtsw_fr hs h (fun t st2 h1 q => hK _ _ _ _ _ _ hl h1 h0 q)
    | exact xlsw_fr hs h (fun t st2 h1 q => hK _ _ _ _ _ _ hl h1 h0 q)
    | exact xgf_fr hs hc h (fun st2 h1 q => hK _ _ _ _ _ _ hl h1 h0 q)
    | exact xpf_fr hs hc hp (fun ci f e => (by simp only [wI, e] at hw; exact hw)) h (fun st2 S1 h1 h2 q => hK _ _ _ _ _ _ hl h1 h2 q)
    | exact xgs_fr h (fun v hv => sta_lt hv) (fun v hv q => hK _ _ _ _ _ _ hl (gS_c (v := .ref (1000000 + v)) (hD v hv) hs) h0 q)
    | exact xiald_fr hs h (fun st2 h1 q => hK _ _ _ _ _ _ hl h1 h0 q)
    | exact xbald_fr hs h (fun st2 h1 q => hK _ _ _ _ _ _ hl h1 h0 q)
    | exact xlald_fr hs h (fun st2 h1 q => hK _ _ _ _ _ _ hl h1 h0 q)
    | exact xaald_fr hs hc h (fun st2 h1 q => hK _ _ _ _ _ _ hl h1 h0 q)
    | exact xiast_fr hs hc ha h (fun st2 S1 h1 h2 q => hK _ _ _ _ _ _ hl h1 h2 q)
    | exact xlast_fr hs hc ha h (fun st2 S1 h1 h2 q => hK _ _ _ _ _ _ hl h1 h2 q)
    | exact xbast_fr hs hc ha h (fun st2 S1 h1 h2 q => hK _ _ _ _ _ _ hl h1 h2 q)
    | (exfalso; simp [wI] at hw; done)
    | exact xcl_fr hs hc (fun y2 na e => (by simp only [wI, e] at hw; exact hw)) hcall (fun e => hnd_no hy) h (fun st2 c2 q2 S1 h1 h2 q => hK _ _ _ _ _ _ hl h1 h2 q)
    | (split at h
       · split at h
         · exact xret_rt h
         · cases h
       · cases h)
    | (split at h
       · split at h
         · exact xrel_rt h
         · cases h
       · cases h)
    | (split at h
       · split at h
         · exact xrea_rt h
         · cases h
       · cases h)
    | (split at h
       · split at h
         · exact xrev_rt h
         · cases h
       · cases h)
    | (split at h
       · next hn => exfalso; simp [wI, hn] at hw
       · split at h
         · exact xthr_rt h
         · cases h)
    | (split at h
       · next hn => exfalso; simp [wI, hn] at hw
       · next hn =>
         have e : xc_spc (xc_own y) _ = none := (by simp only [wI, Bool.and_eq_true, Option.isNone_iff_eq_none] at hw; exact hw.2)
         rw [e] at h
         cases h)
    | (split at h
       · split at h
         · split at h
           · exact xmin_fr hs h (fun st2 h1 q => hK _ _ _ _ _ _ hl h1 h0 q)
           · cases h
         · cases h
       · exact xcl_fr hs hc (fun y2 na e => (by simp only [wI, e] at hw; exact hw)) hcall (fun e => hnd_no hy) h (fun st2 c2 q2 S1 h1 h2 q => hK _ _ _ _ _ _ hl h1 h2 q))
theorem xev_rt : ∀ (n pc : Nat) (lv : xL) (st : List Value) (c q : Nat) (S : xS), yM y = true → xev n y pc lv st c q S = some r → Tr y r := by
  intro n
  induction n with
  | zero => intro pc lv st c q S _ h; cases h
  | succ n ih =>
    intro pc lv st c q S hy h
    unfold xev at h
    split at h
    · next i hi =>
      refine xstep_rt (wM_ok y hy).1 (xev_code wM_ok hy hi) (fun pc lv st c q S1 h1 => ih pc lv st c q S1 hy h1) (fun y2 as r2 h1 h2 h3 => ?_) h
      split at h3
      · exact xev_fr wM_ok (fun _ _ => trivial) n y2 0 _ [] 0 0 S r2 h1 (gL_args as 0 h2) trivial (gC_T S) (gA_T S) (gP_T pM S) h3
      · cases h3
    · cases h
theorem xF_rt {as : List Value} (hy : yM y = true) (h : xF y as S r) : Tr y r := by
  obtain ⟨n, hn⟩ := h
  unfold xmeth at hn
  split at hn
  · exact xev_rt n 0 _ [] 0 0 S hy hn
  · cases hn
end RT
-- CALLS THAT THROW
theorem xe_catch {y pc : Nat} {lv : xL} {st : List Value} {c q : Nat} {S : xS} {r : xR} {y2 na : Nat} {o : Option (Nat × Nat)} {as : List Value} {ex t : Nat} {S1 : xS} (ho : o = some (y2, na)) (ha : (st.take na).reverse = as) (hl : na ≤ st.length) (hv : xc_lev y2 < xc_lev y) (h1 : c + xc_mc y2 ≤ xc_mc y) (h2 : q + xc_ms y2 ≤ xc_ms y) (h3 : ((st.drop na).map fun v => v.category).sum ≤ 8) (h4 : xrcv y2 S as = true) (hF : xF y2 as S (.inl ex, S1)) (ht : xc_hnd y pc ex = some t) (hz : xz S1 ≤ 1000000) (h : xE y t lv [.ref (xz S1 - 1)] (c + xc_mc y2) (q + xc_ms y2) S1 r) : ∃ n, xcl (fun t c q S => xev n y (pc + 3) lv t c q S) (fun t r c q S => xev n y t lv r c q S) (xc_hnd y pc) (fun y2 as S2 => if (lg_sl as).length ≤ xc_nl y2 then xev n y2 0 (lv_args 0 as) [] 0 0 S2 else none) o (xc_lev y) (xc_mc y) (xc_ms y) c q S st = some r := by
  obtain ⟨n1, e1⟩ := hF
  obtain ⟨n2, e2⟩ := h
  subst ho ha
  refine ⟨n1 + n2, ?_⟩
  unfold xmeth at e1
  split at e1
  · next hfit =>
    have e3 := xev_mono (k := n1 + n2) (by omega) e1
    have e4 := xev_mono (k := n1 + n2) (by omega) e2
    unfold xcl
    simp only [if_pos hl, if_pos hv, if_pos h1, if_pos h2, if_pos h3, if_pos h4, if_pos hfit, e3, ht, if_pos hz]
    exact e4
  · cases e1
theorem xp_ivc {y pc : Nat} {lv : xL} {st : List Value} {c q : Nat} {S : xS} {P : xR → Prop} {x y2 na : Nat} {as : List Value} {ex t : Nat} {S1 : xS} (hc : xc_code y pc = some (.invokevirtual x)) (ho : xc_vrt (xc_own y) x = some (y2, na)) (hl : na ≤ st.length) (hv : xc_lev y2 < xc_lev y) (hm1 : c + xc_mc y2 ≤ xc_mc y) (hm2 : q + xc_ms y2 ≤ xc_ms y) (h3 : ((st.drop na).map fun v => v.category).sum ≤ 8) (ha : (st.take na).reverse = as) (h4 : xrcv y2 S as = true) (hF : xF y2 as S (.inl ex, S1)) (ht : xc_hnd y pc ex = some t) (hz : xz S1 ≤ 1000000) (h : xP y t lv [.ref (xz S1 - 1)] (c + xc_mc y2) (q + xc_ms y2) S1 P) : xP y pc lv st c q S P := by
  obtain ⟨r, k1, k2⟩ := h
  exact ⟨r, xE_go hc (xe_catch ho ha hl hv hm1 hm2 h3 h4 hF ht hz k1), k2⟩
theorem mpO_in {l : List (Nat × Nat)} {ex : Nat} (h : (l.lookup ex).getD 0 ≠ 0) : ∃ p, p ∈ l ∧ p.1 = ex ∧ p.2 = (l.lookup ex).getD 0 := by
  induction l with
  | nil => exact absurd rfl h
  | cons a l ih =>
    rw [List.lookup_cons] at h ⊢
    by_cases q : ex = a.1
    · rw [q] at h ⊢
      simp only [BEq.rfl] at h ⊢
      exact ⟨a, List.mem_cons_self, rfl, rfl⟩
    · rw [show (ex == a.1) = false from beq_eq_false_iff_ne.mpr q] at h ⊢
      obtain ⟨p, p1, p2, p3⟩ := ih h
      exact ⟨p, List.mem_cons_of_mem a p1, p2, p3⟩
-- THE WRAPPERS
theorem w173 {z z1 : Nat} {T : Nat → Option xT} {R R1 : Nat → Nat → Option Nat} {A A1 : xQ} {w w1 : Nat} {x0 x1 : Int32} {v : Int32} (hL : xLay T R w) (hL1 : xLay T R1 w1) (h : xF 1 [.ref 0, .int x0, .int x1] (xm z T R A) (.inr (some (.int v)), xm z1 T R1 A1)) : xF 173 [.ref 0, .int x0, .int x1, .ref 229] (xm z T R A) (.inr (some (.int (nI 0))), xm z1 T R1 (xsJ A1 229 0 v.toInt64)) := by
  refine xF_eq (xF_p (Nat.le_of_ble_eq_true rfl) ?_)
  refine xp_aload_n rfl rfl ?_
  refine xp_iconst (n := 0) rfl (by decide) ?_
  refine xp_aload_n rfl rfl ?_
  refine xp_iload_n rfl rfl ?_
  refine xp_iload_n rfl rfl ?_
  refine xp_iv rfl rfl (Nat.le_of_ble_eq_true rfl) (by decide) (by decide) (by decide) (Nat.le_of_ble_eq_true rfl) rfl (xrcv1 (by decide) (by first | assumption | exact hL.t rfl)) (h) rfl ?_
  refine xp_i2l rfl ?_
  refine xp_last rfl (by first | assumption | exact hL.t rfl) (by omega) (by omega) ?_
  refine xp_goto 17 rfl (by decide) ?_
  refine xp_iconst (n := 0) rfl (by decide) ?_
  refine xp_ireturn rfl (by decide) (by decide) (by decide) ?_
  rfl
theorem w173_0 {z z1 : Nat} {T : Nat → Option xT} {R R1 : Nat → Nat → Option Nat} {A A1 : xQ} {w : Nat} {x0 x1 : Int32} (hL : xLay T R w) (h : xF 1 [.ref 0, .int x0, .int x1] (xm z T R A) (.inl 0, xm z1 T R1 A1)) (hz : z1 ≤ 1000000) : xF 173 [.ref 0, .int x0, .int x1, .ref 229] (xm z T R A) (.inr (some (.int (nI 1))), xm z1 T R1 A1) := by
  refine xF_eq (xF_p (Nat.le_of_ble_eq_true rfl) ?_)
  refine xp_aload_n rfl rfl ?_
  refine xp_iconst (n := 0) rfl (by decide) ?_
  refine xp_aload_n rfl rfl ?_
  refine xp_iload_n rfl rfl ?_
  refine xp_iload_n rfl rfl ?_
  refine xp_ivc (t := 13) rfl rfl (Nat.le_of_ble_eq_true rfl) (by decide) (by decide) (by decide) (Nat.le_of_ble_eq_true rfl) rfl (xrcv1 (by decide) (by first | assumption | exact hL.t rfl)) h (by decide) hz ?_
  refine xp_astore rfl (by decide) ?_
  refine xp_iconst (n := 1) rfl (by decide) ?_
  refine xp_ireturn rfl (by decide) (by decide) (by decide) ?_
  rfl
theorem w174 {z z1 : Nat} {T : Nat → Option xT} {R R1 : Nat → Nat → Option Nat} {A A1 : xQ} {w w1 : Nat} {x0 x1 x2 x3 : Int32} {v : Int32} (hL : xLay T R w) (hL1 : xLay T R1 w1) (h : xF 2 [.ref 0, .int x0, .int x1, .int x2, .int x3] (xm z T R A) (.inr (some (.int v)), xm z1 T R1 A1)) : xF 174 [.ref 0, .int x0, .int x1, .int x2, .int x3, .ref 229] (xm z T R A) (.inr (some (.int (nI 0))), xm z1 T R1 (xsJ A1 229 0 v.toInt64)) := by
  refine xF_eq (xF_p (Nat.le_of_ble_eq_true rfl) ?_)
  refine xp_aload rfl rfl ?_
  refine xp_iconst (n := 0) rfl (by decide) ?_
  refine xp_aload_n rfl rfl ?_
  refine xp_iload_n rfl rfl ?_
  refine xp_iload_n rfl rfl ?_
  refine xp_iload_n rfl rfl ?_
  refine xp_iload rfl rfl ?_
  refine xp_iv rfl rfl (Nat.le_of_ble_eq_true rfl) (by decide) (by decide) (by decide) (Nat.le_of_ble_eq_true rfl) rfl (xrcv1 (by decide) (by first | assumption | exact hL.t rfl)) (h) rfl ?_
  refine xp_i2l rfl ?_
  refine xp_last rfl (by first | assumption | exact hL.t rfl) (by omega) (by omega) ?_
  refine xp_goto 25 rfl (by decide) ?_
  refine xp_iconst (n := 0) rfl (by decide) ?_
  refine xp_ireturn rfl (by decide) (by decide) (by decide) ?_
  rfl
theorem w174_0 {z z1 : Nat} {T : Nat → Option xT} {R R1 : Nat → Nat → Option Nat} {A A1 : xQ} {w : Nat} {x0 x1 x2 x3 : Int32} (hL : xLay T R w) (h : xF 2 [.ref 0, .int x0, .int x1, .int x2, .int x3] (xm z T R A) (.inl 0, xm z1 T R1 A1)) (hz : z1 ≤ 1000000) : xF 174 [.ref 0, .int x0, .int x1, .int x2, .int x3, .ref 229] (xm z T R A) (.inr (some (.int (nI 1))), xm z1 T R1 A1) := by
  refine xF_eq (xF_p (Nat.le_of_ble_eq_true rfl) ?_)
  refine xp_aload rfl rfl ?_
  refine xp_iconst (n := 0) rfl (by decide) ?_
  refine xp_aload_n rfl rfl ?_
  refine xp_iload_n rfl rfl ?_
  refine xp_iload_n rfl rfl ?_
  refine xp_iload_n rfl rfl ?_
  refine xp_iload rfl rfl ?_
  refine xp_ivc (t := 17) rfl rfl (Nat.le_of_ble_eq_true rfl) (by decide) (by decide) (by decide) (Nat.le_of_ble_eq_true rfl) rfl (xrcv1 (by decide) (by first | assumption | exact hL.t rfl)) h (by decide) hz ?_
  refine xp_astore rfl (by decide) ?_
  refine xp_iconst (n := 1) rfl (by decide) ?_
  refine xp_ireturn rfl (by decide) (by decide) (by decide) ?_
  rfl
theorem w174_1 {z z1 : Nat} {T : Nat → Option xT} {R R1 : Nat → Nat → Option Nat} {A A1 : xQ} {w : Nat} {x0 x1 x2 x3 : Int32} (hL : xLay T R w) (h : xF 2 [.ref 0, .int x0, .int x1, .int x2, .int x3] (xm z T R A) (.inl 1, xm z1 T R1 A1)) (hz : z1 ≤ 1000000) : xF 174 [.ref 0, .int x0, .int x1, .int x2, .int x3, .ref 229] (xm z T R A) (.inr (some (.int (nI 2))), xm z1 T R1 A1) := by
  refine xF_eq (xF_p (Nat.le_of_ble_eq_true rfl) ?_)
  refine xp_aload rfl rfl ?_
  refine xp_iconst (n := 0) rfl (by decide) ?_
  refine xp_aload_n rfl rfl ?_
  refine xp_iload_n rfl rfl ?_
  refine xp_iload_n rfl rfl ?_
  refine xp_iload_n rfl rfl ?_
  refine xp_iload rfl rfl ?_
  refine xp_ivc (t := 21) rfl rfl (Nat.le_of_ble_eq_true rfl) (by decide) (by decide) (by decide) (Nat.le_of_ble_eq_true rfl) rfl (xrcv1 (by decide) (by first | assumption | exact hL.t rfl)) h (by decide) hz ?_
  refine xp_astore rfl (by decide) ?_
  refine xp_iconst (n := 2) rfl (by decide) ?_
  refine xp_ireturn rfl (by decide) (by decide) (by decide) ?_
  rfl
theorem w175 {z z1 : Nat} {T : Nat → Option xT} {R R1 : Nat → Nat → Option Nat} {A A1 : xQ} {w w1 : Nat} {x0 x1 x2 x3 : Int32} {v : Int32} (hL : xLay T R w) (hL1 : xLay T R1 w1) (h : xF 3 [.ref 0, .int x0, .int x1, .int x2, .int x3] (xm z T R A) (.inr (some (.int v)), xm z1 T R1 A1)) : xF 175 [.ref 0, .int x0, .int x1, .int x2, .int x3, .ref 229] (xm z T R A) (.inr (some (.int (nI 0))), xm z1 T R1 (xsJ A1 229 0 v.toInt64)) := by
  refine xF_eq (xF_p (Nat.le_of_ble_eq_true rfl) ?_)
  refine xp_aload rfl rfl ?_
  refine xp_iconst (n := 0) rfl (by decide) ?_
  refine xp_aload_n rfl rfl ?_
  refine xp_iload_n rfl rfl ?_
  refine xp_iload_n rfl rfl ?_
  refine xp_iload_n rfl rfl ?_
  refine xp_iload rfl rfl ?_
  refine xp_iv rfl rfl (Nat.le_of_ble_eq_true rfl) (by decide) (by decide) (by decide) (Nat.le_of_ble_eq_true rfl) rfl (xrcv1 (by decide) (by first | assumption | exact hL.t rfl)) (h) rfl ?_
  refine xp_i2l rfl ?_
  refine xp_last rfl (by first | assumption | exact hL.t rfl) (by omega) (by omega) ?_
  refine xp_goto 25 rfl (by decide) ?_
  refine xp_iconst (n := 0) rfl (by decide) ?_
  refine xp_ireturn rfl (by decide) (by decide) (by decide) ?_
  rfl
theorem w175_0 {z z1 : Nat} {T : Nat → Option xT} {R R1 : Nat → Nat → Option Nat} {A A1 : xQ} {w : Nat} {x0 x1 x2 x3 : Int32} (hL : xLay T R w) (h : xF 3 [.ref 0, .int x0, .int x1, .int x2, .int x3] (xm z T R A) (.inl 0, xm z1 T R1 A1)) (hz : z1 ≤ 1000000) : xF 175 [.ref 0, .int x0, .int x1, .int x2, .int x3, .ref 229] (xm z T R A) (.inr (some (.int (nI 1))), xm z1 T R1 A1) := by
  refine xF_eq (xF_p (Nat.le_of_ble_eq_true rfl) ?_)
  refine xp_aload rfl rfl ?_
  refine xp_iconst (n := 0) rfl (by decide) ?_
  refine xp_aload_n rfl rfl ?_
  refine xp_iload_n rfl rfl ?_
  refine xp_iload_n rfl rfl ?_
  refine xp_iload_n rfl rfl ?_
  refine xp_iload rfl rfl ?_
  refine xp_ivc (t := 17) rfl rfl (Nat.le_of_ble_eq_true rfl) (by decide) (by decide) (by decide) (Nat.le_of_ble_eq_true rfl) rfl (xrcv1 (by decide) (by first | assumption | exact hL.t rfl)) h (by decide) hz ?_
  refine xp_astore rfl (by decide) ?_
  refine xp_iconst (n := 1) rfl (by decide) ?_
  refine xp_ireturn rfl (by decide) (by decide) (by decide) ?_
  rfl
theorem w175_1 {z z1 : Nat} {T : Nat → Option xT} {R R1 : Nat → Nat → Option Nat} {A A1 : xQ} {w : Nat} {x0 x1 x2 x3 : Int32} (hL : xLay T R w) (h : xF 3 [.ref 0, .int x0, .int x1, .int x2, .int x3] (xm z T R A) (.inl 1, xm z1 T R1 A1)) (hz : z1 ≤ 1000000) : xF 175 [.ref 0, .int x0, .int x1, .int x2, .int x3, .ref 229] (xm z T R A) (.inr (some (.int (nI 2))), xm z1 T R1 A1) := by
  refine xF_eq (xF_p (Nat.le_of_ble_eq_true rfl) ?_)
  refine xp_aload rfl rfl ?_
  refine xp_iconst (n := 0) rfl (by decide) ?_
  refine xp_aload_n rfl rfl ?_
  refine xp_iload_n rfl rfl ?_
  refine xp_iload_n rfl rfl ?_
  refine xp_iload_n rfl rfl ?_
  refine xp_iload rfl rfl ?_
  refine xp_ivc (t := 21) rfl rfl (Nat.le_of_ble_eq_true rfl) (by decide) (by decide) (by decide) (Nat.le_of_ble_eq_true rfl) rfl (xrcv1 (by decide) (by first | assumption | exact hL.t rfl)) h (by decide) hz ?_
  refine xp_astore rfl (by decide) ?_
  refine xp_iconst (n := 2) rfl (by decide) ?_
  refine xp_ireturn rfl (by decide) (by decide) (by decide) ?_
  rfl
theorem w176 {z z1 : Nat} {T : Nat → Option xT} {R R1 : Nat → Nat → Option Nat} {A A1 : xQ} {w w1 : Nat} {x0 x1 x2 : Int32} {v : Int32} (hL : xLay T R w) (hL1 : xLay T R1 w1) (h : xF 4 [.ref 0, .int x0, .int x1, .int x2] (xm z T R A) (.inr (some (.int v)), xm z1 T R1 A1)) : xF 176 [.ref 0, .int x0, .int x1, .int x2, .ref 229] (xm z T R A) (.inr (some (.int (nI 0))), xm z1 T R1 (xsJ A1 229 0 v.toInt64)) := by
  refine xF_eq (xF_p (Nat.le_of_ble_eq_true rfl) ?_)
  refine xp_aload rfl rfl ?_
  refine xp_iconst (n := 0) rfl (by decide) ?_
  refine xp_aload_n rfl rfl ?_
  refine xp_iload_n rfl rfl ?_
  refine xp_iload_n rfl rfl ?_
  refine xp_iload_n rfl rfl ?_
  refine xp_iv rfl rfl (Nat.le_of_ble_eq_true rfl) (by decide) (by decide) (by decide) (Nat.le_of_ble_eq_true rfl) rfl (xrcv1 (by decide) (by first | assumption | exact hL.t rfl)) (h) rfl ?_
  refine xp_i2l rfl ?_
  refine xp_last rfl (by first | assumption | exact hL.t rfl) (by omega) (by omega) ?_
  refine xp_goto 19 rfl (by decide) ?_
  refine xp_iconst (n := 0) rfl (by decide) ?_
  refine xp_ireturn rfl (by decide) (by decide) (by decide) ?_
  rfl
theorem w176_0 {z z1 : Nat} {T : Nat → Option xT} {R R1 : Nat → Nat → Option Nat} {A A1 : xQ} {w : Nat} {x0 x1 x2 : Int32} (hL : xLay T R w) (h : xF 4 [.ref 0, .int x0, .int x1, .int x2] (xm z T R A) (.inl 0, xm z1 T R1 A1)) (hz : z1 ≤ 1000000) : xF 176 [.ref 0, .int x0, .int x1, .int x2, .ref 229] (xm z T R A) (.inr (some (.int (nI 1))), xm z1 T R1 A1) := by
  refine xF_eq (xF_p (Nat.le_of_ble_eq_true rfl) ?_)
  refine xp_aload rfl rfl ?_
  refine xp_iconst (n := 0) rfl (by decide) ?_
  refine xp_aload_n rfl rfl ?_
  refine xp_iload_n rfl rfl ?_
  refine xp_iload_n rfl rfl ?_
  refine xp_iload_n rfl rfl ?_
  refine xp_ivc (t := 15) rfl rfl (Nat.le_of_ble_eq_true rfl) (by decide) (by decide) (by decide) (Nat.le_of_ble_eq_true rfl) rfl (xrcv1 (by decide) (by first | assumption | exact hL.t rfl)) h (by decide) hz ?_
  refine xp_astore rfl (by decide) ?_
  refine xp_iconst (n := 1) rfl (by decide) ?_
  refine xp_ireturn rfl (by decide) (by decide) (by decide) ?_
  rfl
theorem w177 {z z1 : Nat} {T : Nat → Option xT} {R R1 : Nat → Nat → Option Nat} {A A1 : xQ} {w w1 : Nat} {x0 : Int32} {v : Int32} (hL : xLay T R w) (hL1 : xLay T R1 w1) (h : xF 5 [.ref 0, .int x0] (xm z T R A) (.inr (some (.int v)), xm z1 T R1 A1)) : xF 177 [.ref 0, .int x0, .ref 229] (xm z T R A) (.inr (some (.int (nI 0))), xm z1 T R1 (xsJ A1 229 0 v.toInt64)) := by
  refine xF_eq (xF_p (Nat.le_of_ble_eq_true rfl) ?_)
  refine xp_aload_n rfl rfl ?_
  refine xp_iconst (n := 0) rfl (by decide) ?_
  refine xp_aload_n rfl rfl ?_
  refine xp_iload_n rfl rfl ?_
  refine xp_iv rfl rfl (Nat.le_of_ble_eq_true rfl) (by decide) (by decide) (by decide) (Nat.le_of_ble_eq_true rfl) rfl (xrcv1 (by decide) (by first | assumption | exact hL.t rfl)) (h) rfl ?_
  refine xp_i2l rfl ?_
  refine xp_last rfl (by first | assumption | exact hL.t rfl) (by omega) (by omega) ?_
  refine xp_goto 18 rfl (by decide) ?_
  refine xp_iconst (n := 0) rfl (by decide) ?_
  refine xp_ireturn rfl (by decide) (by decide) (by decide) ?_
  rfl
theorem w177_0 {z z1 : Nat} {T : Nat → Option xT} {R R1 : Nat → Nat → Option Nat} {A A1 : xQ} {w : Nat} {x0 : Int32} (hL : xLay T R w) (h : xF 5 [.ref 0, .int x0] (xm z T R A) (.inl 0, xm z1 T R1 A1)) (hz : z1 ≤ 1000000) : xF 177 [.ref 0, .int x0, .ref 229] (xm z T R A) (.inr (some (.int (nI 1))), xm z1 T R1 A1) := by
  refine xF_eq (xF_p (Nat.le_of_ble_eq_true rfl) ?_)
  refine xp_aload_n rfl rfl ?_
  refine xp_iconst (n := 0) rfl (by decide) ?_
  refine xp_aload_n rfl rfl ?_
  refine xp_iload_n rfl rfl ?_
  refine xp_ivc (t := 12) rfl rfl (Nat.le_of_ble_eq_true rfl) (by decide) (by decide) (by decide) (Nat.le_of_ble_eq_true rfl) rfl (xrcv1 (by decide) (by first | assumption | exact hL.t rfl)) h (by decide) hz ?_
  refine xp_astore_n rfl (by decide) ?_
  refine xp_iconst (n := 1) rfl (by decide) ?_
  refine xp_ireturn rfl (by decide) (by decide) (by decide) ?_
  rfl
theorem w177_1 {z z1 : Nat} {T : Nat → Option xT} {R R1 : Nat → Nat → Option Nat} {A A1 : xQ} {w : Nat} {x0 : Int32} (hL : xLay T R w) (h : xF 5 [.ref 0, .int x0] (xm z T R A) (.inl 1, xm z1 T R1 A1)) (hz : z1 ≤ 1000000) : xF 177 [.ref 0, .int x0, .ref 229] (xm z T R A) (.inr (some (.int (nI 2))), xm z1 T R1 A1) := by
  refine xF_eq (xF_p (Nat.le_of_ble_eq_true rfl) ?_)
  refine xp_aload_n rfl rfl ?_
  refine xp_iconst (n := 0) rfl (by decide) ?_
  refine xp_aload_n rfl rfl ?_
  refine xp_iload_n rfl rfl ?_
  refine xp_ivc (t := 15) rfl rfl (Nat.le_of_ble_eq_true rfl) (by decide) (by decide) (by decide) (Nat.le_of_ble_eq_true rfl) rfl (xrcv1 (by decide) (by first | assumption | exact hL.t rfl)) h (by decide) hz ?_
  refine xp_astore_n rfl (by decide) ?_
  refine xp_iconst (n := 2) rfl (by decide) ?_
  refine xp_ireturn rfl (by decide) (by decide) (by decide) ?_
  rfl
theorem w178 {z z1 : Nat} {T : Nat → Option xT} {R R1 : Nat → Nat → Option Nat} {A A1 : xQ} {w w1 : Nat} {x0 : Int32} {v : Int64} (hL : xLay T R w) (hL1 : xLay T R1 w1) (h : xF 6 [.ref 0, .int x0] (xm z T R A) (.inr (some (.long v)), xm z1 T R1 A1)) : xF 178 [.ref 0, .int x0, .ref 229] (xm z T R A) (.inr (some (.int (nI 0))), xm z1 T R1 (xsJ A1 229 0 v)) := by
  refine xF_eq (xF_p (Nat.le_of_ble_eq_true rfl) ?_)
  refine xp_aload_n rfl rfl ?_
  refine xp_iconst (n := 0) rfl (by decide) ?_
  refine xp_aload_n rfl rfl ?_
  refine xp_iload_n rfl rfl ?_
  refine xp_iv rfl rfl (Nat.le_of_ble_eq_true rfl) (by decide) (by decide) (by decide) (Nat.le_of_ble_eq_true rfl) rfl (xrcv1 (by decide) (by first | assumption | exact hL.t rfl)) (h) rfl ?_
  refine xp_last rfl (by first | assumption | exact hL.t rfl) (by omega) (by omega) ?_
  refine xp_goto 14 rfl (by decide) ?_
  refine xp_iconst (n := 0) rfl (by decide) ?_
  refine xp_ireturn rfl (by decide) (by decide) (by decide) ?_
  rfl
theorem w178_2 {z z1 : Nat} {T : Nat → Option xT} {R R1 : Nat → Nat → Option Nat} {A A1 : xQ} {w : Nat} {x0 : Int32} (hL : xLay T R w) (h : xF 6 [.ref 0, .int x0] (xm z T R A) (.inl 2, xm z1 T R1 A1)) (hz : z1 ≤ 1000000) : xF 178 [.ref 0, .int x0, .ref 229] (xm z T R A) (.inr (some (.int (nI 1))), xm z1 T R1 A1) := by
  refine xF_eq (xF_p (Nat.le_of_ble_eq_true rfl) ?_)
  refine xp_aload_n rfl rfl ?_
  refine xp_iconst (n := 0) rfl (by decide) ?_
  refine xp_aload_n rfl rfl ?_
  refine xp_iload_n rfl rfl ?_
  refine xp_ivc (t := 11) rfl rfl (Nat.le_of_ble_eq_true rfl) (by decide) (by decide) (by decide) (Nat.le_of_ble_eq_true rfl) rfl (xrcv1 (by decide) (by first | assumption | exact hL.t rfl)) h (by decide) hz ?_
  refine xp_astore_n rfl (by decide) ?_
  refine xp_iconst (n := 1) rfl (by decide) ?_
  refine xp_ireturn rfl (by decide) (by decide) (by decide) ?_
  rfl
theorem w179 {z z1 : Nat} {T : Nat → Option xT} {R R1 : Nat → Nat → Option Nat} {A A1 : xQ} {w w1 : Nat} {x0 : Int32} {v : Int64} (hL : xLay T R w) (hL1 : xLay T R1 w1) (h : xF 7 [.ref 0, .int x0] (xm z T R A) (.inr (some (.long v)), xm z1 T R1 A1)) : xF 179 [.ref 0, .int x0, .ref 229] (xm z T R A) (.inr (some (.int (nI 0))), xm z1 T R1 (xsJ A1 229 0 v)) := by
  refine xF_eq (xF_p (Nat.le_of_ble_eq_true rfl) ?_)
  refine xp_aload_n rfl rfl ?_
  refine xp_iconst (n := 0) rfl (by decide) ?_
  refine xp_aload_n rfl rfl ?_
  refine xp_iload_n rfl rfl ?_
  refine xp_iv rfl rfl (Nat.le_of_ble_eq_true rfl) (by decide) (by decide) (by decide) (Nat.le_of_ble_eq_true rfl) rfl (xrcv1 (by decide) (by first | assumption | exact hL.t rfl)) (h) rfl ?_
  refine xp_last rfl (by first | assumption | exact hL.t rfl) (by omega) (by omega) ?_
  refine xp_goto 20 rfl (by decide) ?_
  refine xp_iconst (n := 0) rfl (by decide) ?_
  refine xp_ireturn rfl (by decide) (by decide) (by decide) ?_
  rfl
theorem w179_2 {z z1 : Nat} {T : Nat → Option xT} {R R1 : Nat → Nat → Option Nat} {A A1 : xQ} {w : Nat} {x0 : Int32} (hL : xLay T R w) (h : xF 7 [.ref 0, .int x0] (xm z T R A) (.inl 2, xm z1 T R1 A1)) (hz : z1 ≤ 1000000) : xF 179 [.ref 0, .int x0, .ref 229] (xm z T R A) (.inr (some (.int (nI 1))), xm z1 T R1 A1) := by
  refine xF_eq (xF_p (Nat.le_of_ble_eq_true rfl) ?_)
  refine xp_aload_n rfl rfl ?_
  refine xp_iconst (n := 0) rfl (by decide) ?_
  refine xp_aload_n rfl rfl ?_
  refine xp_iload_n rfl rfl ?_
  refine xp_ivc (t := 11) rfl rfl (Nat.le_of_ble_eq_true rfl) (by decide) (by decide) (by decide) (Nat.le_of_ble_eq_true rfl) rfl (xrcv1 (by decide) (by first | assumption | exact hL.t rfl)) h (by decide) hz ?_
  refine xp_astore_n rfl (by decide) ?_
  refine xp_iconst (n := 1) rfl (by decide) ?_
  refine xp_ireturn rfl (by decide) (by decide) (by decide) ?_
  rfl
theorem w179_1 {z z1 : Nat} {T : Nat → Option xT} {R R1 : Nat → Nat → Option Nat} {A A1 : xQ} {w : Nat} {x0 : Int32} (hL : xLay T R w) (h : xF 7 [.ref 0, .int x0] (xm z T R A) (.inl 1, xm z1 T R1 A1)) (hz : z1 ≤ 1000000) : xF 179 [.ref 0, .int x0, .ref 229] (xm z T R A) (.inr (some (.int (nI 2))), xm z1 T R1 A1) := by
  refine xF_eq (xF_p (Nat.le_of_ble_eq_true rfl) ?_)
  refine xp_aload_n rfl rfl ?_
  refine xp_iconst (n := 0) rfl (by decide) ?_
  refine xp_aload_n rfl rfl ?_
  refine xp_iload_n rfl rfl ?_
  refine xp_ivc (t := 14) rfl rfl (Nat.le_of_ble_eq_true rfl) (by decide) (by decide) (by decide) (Nat.le_of_ble_eq_true rfl) rfl (xrcv1 (by decide) (by first | assumption | exact hL.t rfl)) h (by decide) hz ?_
  refine xp_astore_n rfl (by decide) ?_
  refine xp_iconst (n := 2) rfl (by decide) ?_
  refine xp_ireturn rfl (by decide) (by decide) (by decide) ?_
  rfl
theorem w179_3 {z z1 : Nat} {T : Nat → Option xT} {R R1 : Nat → Nat → Option Nat} {A A1 : xQ} {w : Nat} {x0 : Int32} (hL : xLay T R w) (h : xF 7 [.ref 0, .int x0] (xm z T R A) (.inl 3, xm z1 T R1 A1)) (hz : z1 ≤ 1000000) : xF 179 [.ref 0, .int x0, .ref 229] (xm z T R A) (.inr (some (.int (nI 3))), xm z1 T R1 A1) := by
  refine xF_eq (xF_p (Nat.le_of_ble_eq_true rfl) ?_)
  refine xp_aload_n rfl rfl ?_
  refine xp_iconst (n := 0) rfl (by decide) ?_
  refine xp_aload_n rfl rfl ?_
  refine xp_iload_n rfl rfl ?_
  refine xp_ivc (t := 17) rfl rfl (Nat.le_of_ble_eq_true rfl) (by decide) (by decide) (by decide) (Nat.le_of_ble_eq_true rfl) rfl (xrcv1 (by decide) (by first | assumption | exact hL.t rfl)) h (by decide) hz ?_
  refine xp_astore_n rfl (by decide) ?_
  refine xp_iconst (n := 3) rfl (by decide) ?_
  refine xp_ireturn rfl (by decide) (by decide) (by decide) ?_
  rfl
theorem w180 {z z1 : Nat} {T : Nat → Option xT} {R R1 : Nat → Nat → Option Nat} {A A1 : xQ} {w w1 : Nat} {x0 : Int32} {v : Int32} (hL : xLay T R w) (hL1 : xLay T R1 w1) (h : xF 8 [.ref 0, .int x0] (xm z T R A) (.inr (some (.int v)), xm z1 T R1 A1)) : xF 180 [.ref 0, .int x0, .ref 229] (xm z T R A) (.inr (some (.int (nI 0))), xm z1 T R1 (xsJ A1 229 0 v.toInt64)) := by
  refine xF_eq (xF_p (Nat.le_of_ble_eq_true rfl) ?_)
  refine xp_aload_n rfl rfl ?_
  refine xp_iconst (n := 0) rfl (by decide) ?_
  refine xp_aload_n rfl rfl ?_
  refine xp_iload_n rfl rfl ?_
  refine xp_iv rfl rfl (Nat.le_of_ble_eq_true rfl) (by decide) (by decide) (by decide) (Nat.le_of_ble_eq_true rfl) rfl (xrcv1 (by decide) (by first | assumption | exact hL.t rfl)) (h) rfl ?_
  refine xp_i2l rfl ?_
  refine xp_last rfl (by first | assumption | exact hL.t rfl) (by omega) (by omega) ?_
  refine xp_goto 15 rfl (by decide) ?_
  refine xp_iconst (n := 0) rfl (by decide) ?_
  refine xp_ireturn rfl (by decide) (by decide) (by decide) ?_
  rfl
theorem w180_0 {z z1 : Nat} {T : Nat → Option xT} {R R1 : Nat → Nat → Option Nat} {A A1 : xQ} {w : Nat} {x0 : Int32} (hL : xLay T R w) (h : xF 8 [.ref 0, .int x0] (xm z T R A) (.inl 0, xm z1 T R1 A1)) (hz : z1 ≤ 1000000) : xF 180 [.ref 0, .int x0, .ref 229] (xm z T R A) (.inr (some (.int (nI 1))), xm z1 T R1 A1) := by
  refine xF_eq (xF_p (Nat.le_of_ble_eq_true rfl) ?_)
  refine xp_aload_n rfl rfl ?_
  refine xp_iconst (n := 0) rfl (by decide) ?_
  refine xp_aload_n rfl rfl ?_
  refine xp_iload_n rfl rfl ?_
  refine xp_ivc (t := 12) rfl rfl (Nat.le_of_ble_eq_true rfl) (by decide) (by decide) (by decide) (Nat.le_of_ble_eq_true rfl) rfl (xrcv1 (by decide) (by first | assumption | exact hL.t rfl)) h (by decide) hz ?_
  refine xp_astore_n rfl (by decide) ?_
  refine xp_iconst (n := 1) rfl (by decide) ?_
  refine xp_ireturn rfl (by decide) (by decide) (by decide) ?_
  rfl
theorem w181 {z z1 : Nat} {T : Nat → Option xT} {R R1 : Nat → Nat → Option Nat} {A A1 : xQ} {w w1 : Nat} {v : Int32} (hL : xLay T R w) (hL1 : xLay T R1 w1) (h : xF 9 [.ref 0] (xm z T R A) (.inr (some (.int v)), xm z1 T R1 A1)) : xF 181 [.ref 0, .ref 229] (xm z T R A) (.inr (some (.int (nI 0))), xm z1 T R1 (xsJ A1 229 0 v.toInt64)) := by
  refine xF_eq (xF_p (Nat.le_of_ble_eq_true rfl) ?_)
  refine xp_aload_n rfl rfl ?_
  refine xp_iconst (n := 0) rfl (by decide) ?_
  refine xp_aload_n rfl rfl ?_
  refine xp_iv rfl rfl (Nat.le_of_ble_eq_true rfl) (by decide) (by decide) (by decide) (Nat.le_of_ble_eq_true rfl) rfl (xrcv1 (by decide) (by first | assumption | exact hL.t rfl)) (h) rfl ?_
  refine xp_i2l rfl ?_
  refine xp_last rfl (by first | assumption | exact hL.t rfl) (by omega) (by omega) ?_
  refine xp_goto 14 rfl (by decide) ?_
  refine xp_iconst (n := 0) rfl (by decide) ?_
  refine xp_ireturn rfl (by decide) (by decide) (by decide) ?_
  rfl
theorem w181_1 {z z1 : Nat} {T : Nat → Option xT} {R R1 : Nat → Nat → Option Nat} {A A1 : xQ} {w : Nat} (hL : xLay T R w) (h : xF 9 [.ref 0] (xm z T R A) (.inl 1, xm z1 T R1 A1)) (hz : z1 ≤ 1000000) : xF 181 [.ref 0, .ref 229] (xm z T R A) (.inr (some (.int (nI 1))), xm z1 T R1 A1) := by
  refine xF_eq (xF_p (Nat.le_of_ble_eq_true rfl) ?_)
  refine xp_aload_n rfl rfl ?_
  refine xp_iconst (n := 0) rfl (by decide) ?_
  refine xp_aload_n rfl rfl ?_
  refine xp_ivc (t := 11) rfl rfl (Nat.le_of_ble_eq_true rfl) (by decide) (by decide) (by decide) (Nat.le_of_ble_eq_true rfl) rfl (xrcv1 (by decide) (by first | assumption | exact hL.t rfl)) h (by decide) hz ?_
  refine xp_astore_n rfl (by decide) ?_
  refine xp_iconst (n := 1) rfl (by decide) ?_
  refine xp_ireturn rfl (by decide) (by decide) (by decide) ?_
  rfl
theorem w182 {z z1 : Nat} {T : Nat → Option xT} {R R1 : Nat → Nat → Option Nat} {A A1 : xQ} {w w1 : Nat} {v : Int32} (hL : xLay T R w) (hL1 : xLay T R1 w1) (h : xF 10 [.ref 0] (xm z T R A) (.inr (some (.int v)), xm z1 T R1 A1)) : xF 182 [.ref 0, .ref 229] (xm z T R A) (.inr (some (.int (nI 0))), xm z1 T R1 (xsJ A1 229 0 v.toInt64)) := by
  refine xF_eq (xF_p (Nat.le_of_ble_eq_true rfl) ?_)
  refine xp_aload_n rfl rfl ?_
  refine xp_iconst (n := 0) rfl (by decide) ?_
  refine xp_aload_n rfl rfl ?_
  refine xp_iv rfl rfl (Nat.le_of_ble_eq_true rfl) (by decide) (by decide) (by decide) (Nat.le_of_ble_eq_true rfl) rfl (xrcv1 (by decide) (by first | assumption | exact hL.t rfl)) (h) rfl ?_
  refine xp_i2l rfl ?_
  refine xp_last rfl (by first | assumption | exact hL.t rfl) (by omega) (by omega) ?_
  refine xp_goto 17 rfl (by decide) ?_
  refine xp_iconst (n := 0) rfl (by decide) ?_
  refine xp_ireturn rfl (by decide) (by decide) (by decide) ?_
  rfl
theorem w182_0 {z z1 : Nat} {T : Nat → Option xT} {R R1 : Nat → Nat → Option Nat} {A A1 : xQ} {w : Nat} (hL : xLay T R w) (h : xF 10 [.ref 0] (xm z T R A) (.inl 0, xm z1 T R1 A1)) (hz : z1 ≤ 1000000) : xF 182 [.ref 0, .ref 229] (xm z T R A) (.inr (some (.int (nI 1))), xm z1 T R1 A1) := by
  refine xF_eq (xF_p (Nat.le_of_ble_eq_true rfl) ?_)
  refine xp_aload_n rfl rfl ?_
  refine xp_iconst (n := 0) rfl (by decide) ?_
  refine xp_aload_n rfl rfl ?_
  refine xp_ivc (t := 11) rfl rfl (Nat.le_of_ble_eq_true rfl) (by decide) (by decide) (by decide) (Nat.le_of_ble_eq_true rfl) rfl (xrcv1 (by decide) (by first | assumption | exact hL.t rfl)) h (by decide) hz ?_
  refine xp_astore_n rfl (by decide) ?_
  refine xp_iconst (n := 1) rfl (by decide) ?_
  refine xp_ireturn rfl (by decide) (by decide) (by decide) ?_
  rfl
theorem w182_3 {z z1 : Nat} {T : Nat → Option xT} {R R1 : Nat → Nat → Option Nat} {A A1 : xQ} {w : Nat} (hL : xLay T R w) (h : xF 10 [.ref 0] (xm z T R A) (.inl 3, xm z1 T R1 A1)) (hz : z1 ≤ 1000000) : xF 182 [.ref 0, .ref 229] (xm z T R A) (.inr (some (.int (nI 2))), xm z1 T R1 A1) := by
  refine xF_eq (xF_p (Nat.le_of_ble_eq_true rfl) ?_)
  refine xp_aload_n rfl rfl ?_
  refine xp_iconst (n := 0) rfl (by decide) ?_
  refine xp_aload_n rfl rfl ?_
  refine xp_ivc (t := 14) rfl rfl (Nat.le_of_ble_eq_true rfl) (by decide) (by decide) (by decide) (Nat.le_of_ble_eq_true rfl) rfl (xrcv1 (by decide) (by first | assumption | exact hL.t rfl)) h (by decide) hz ?_
  refine xp_astore_n rfl (by decide) ?_
  refine xp_iconst (n := 2) rfl (by decide) ?_
  refine xp_ireturn rfl (by decide) (by decide) (by decide) ?_
  rfl
theorem w183 {z z1 : Nat} {T : Nat → Option xT} {R R1 : Nat → Nat → Option Nat} {A A1 : xQ} {w w1 : Nat} {x0 : Int32} {v : Int32} (hL : xLay T R w) (hL1 : xLay T R1 w1) (h : xF 12 [.ref 0, .int x0] (xm z T R A) (.inr (some (.int v)), xm z1 T R1 A1)) : xF 183 [.ref 0, .int x0, .ref 229] (xm z T R A) (.inr (some (.int (nI 0))), xm z1 T R1 (xsJ A1 229 0 v.toInt64)) := by
  refine xF_eq (xF_p (Nat.le_of_ble_eq_true rfl) ?_)
  refine xp_aload_n rfl rfl ?_
  refine xp_iconst (n := 0) rfl (by decide) ?_
  refine xp_aload_n rfl rfl ?_
  refine xp_iload_n rfl rfl ?_
  refine xp_iv rfl rfl (Nat.le_of_ble_eq_true rfl) (by decide) (by decide) (by decide) (Nat.le_of_ble_eq_true rfl) rfl (xrcv1 (by decide) (by first | assumption | exact hL.t rfl)) (h) rfl ?_
  refine xp_i2l rfl ?_
  refine xp_last rfl (by first | assumption | exact hL.t rfl) (by omega) (by omega) ?_
  refine xp_goto 15 rfl (by decide) ?_
  refine xp_iconst (n := 0) rfl (by decide) ?_
  refine xp_ireturn rfl (by decide) (by decide) (by decide) ?_
  rfl
theorem w183_2 {z z1 : Nat} {T : Nat → Option xT} {R R1 : Nat → Nat → Option Nat} {A A1 : xQ} {w : Nat} {x0 : Int32} (hL : xLay T R w) (h : xF 12 [.ref 0, .int x0] (xm z T R A) (.inl 2, xm z1 T R1 A1)) (hz : z1 ≤ 1000000) : xF 183 [.ref 0, .int x0, .ref 229] (xm z T R A) (.inr (some (.int (nI 1))), xm z1 T R1 A1) := by
  refine xF_eq (xF_p (Nat.le_of_ble_eq_true rfl) ?_)
  refine xp_aload_n rfl rfl ?_
  refine xp_iconst (n := 0) rfl (by decide) ?_
  refine xp_aload_n rfl rfl ?_
  refine xp_iload_n rfl rfl ?_
  refine xp_ivc (t := 12) rfl rfl (Nat.le_of_ble_eq_true rfl) (by decide) (by decide) (by decide) (Nat.le_of_ble_eq_true rfl) rfl (xrcv1 (by decide) (by first | assumption | exact hL.t rfl)) h (by decide) hz ?_
  refine xp_astore_n rfl (by decide) ?_
  refine xp_iconst (n := 1) rfl (by decide) ?_
  refine xp_ireturn rfl (by decide) (by decide) (by decide) ?_
  rfl
theorem w184 {z z1 : Nat} {T : Nat → Option xT} {R R1 : Nat → Nat → Option Nat} {A A1 : xQ} {w w1 : Nat} {x0 x1 x2 : Int32} {v : Int32} (hL : xLay T R w) (hL1 : xLay T R1 w1) (h : xF 13 [.ref 0, .int x0, .int x1, .int x2] (xm z T R A) (.inr (some (.int v)), xm z1 T R1 A1)) : xF 184 [.ref 0, .int x0, .int x1, .int x2, .ref 229] (xm z T R A) (.inr (some (.int (nI 0))), xm z1 T R1 (xsJ A1 229 0 v.toInt64)) := by
  refine xF_eq (xF_p (Nat.le_of_ble_eq_true rfl) ?_)
  refine xp_aload rfl rfl ?_
  refine xp_iconst (n := 0) rfl (by decide) ?_
  refine xp_aload_n rfl rfl ?_
  refine xp_iload_n rfl rfl ?_
  refine xp_iload_n rfl rfl ?_
  refine xp_iload_n rfl rfl ?_
  refine xp_iv rfl rfl (Nat.le_of_ble_eq_true rfl) (by decide) (by decide) (by decide) (Nat.le_of_ble_eq_true rfl) rfl (xrcv1 (by decide) (by first | assumption | exact hL.t rfl)) (h) rfl ?_
  refine xp_i2l rfl ?_
  refine xp_last rfl (by first | assumption | exact hL.t rfl) (by omega) (by omega) ?_
  refine xp_goto 23 rfl (by decide) ?_
  refine xp_iconst (n := 0) rfl (by decide) ?_
  refine xp_ireturn rfl (by decide) (by decide) (by decide) ?_
  rfl
theorem w184_0 {z z1 : Nat} {T : Nat → Option xT} {R R1 : Nat → Nat → Option Nat} {A A1 : xQ} {w : Nat} {x0 x1 x2 : Int32} (hL : xLay T R w) (h : xF 13 [.ref 0, .int x0, .int x1, .int x2] (xm z T R A) (.inl 0, xm z1 T R1 A1)) (hz : z1 ≤ 1000000) : xF 184 [.ref 0, .int x0, .int x1, .int x2, .ref 229] (xm z T R A) (.inr (some (.int (nI 1))), xm z1 T R1 A1) := by
  refine xF_eq (xF_p (Nat.le_of_ble_eq_true rfl) ?_)
  refine xp_aload rfl rfl ?_
  refine xp_iconst (n := 0) rfl (by decide) ?_
  refine xp_aload_n rfl rfl ?_
  refine xp_iload_n rfl rfl ?_
  refine xp_iload_n rfl rfl ?_
  refine xp_iload_n rfl rfl ?_
  refine xp_ivc (t := 15) rfl rfl (Nat.le_of_ble_eq_true rfl) (by decide) (by decide) (by decide) (Nat.le_of_ble_eq_true rfl) rfl (xrcv1 (by decide) (by first | assumption | exact hL.t rfl)) h (by decide) hz ?_
  refine xp_astore rfl (by decide) ?_
  refine xp_iconst (n := 1) rfl (by decide) ?_
  refine xp_ireturn rfl (by decide) (by decide) (by decide) ?_
  rfl
theorem w184_2 {z z1 : Nat} {T : Nat → Option xT} {R R1 : Nat → Nat → Option Nat} {A A1 : xQ} {w : Nat} {x0 x1 x2 : Int32} (hL : xLay T R w) (h : xF 13 [.ref 0, .int x0, .int x1, .int x2] (xm z T R A) (.inl 2, xm z1 T R1 A1)) (hz : z1 ≤ 1000000) : xF 184 [.ref 0, .int x0, .int x1, .int x2, .ref 229] (xm z T R A) (.inr (some (.int (nI 2))), xm z1 T R1 A1) := by
  refine xF_eq (xF_p (Nat.le_of_ble_eq_true rfl) ?_)
  refine xp_aload rfl rfl ?_
  refine xp_iconst (n := 0) rfl (by decide) ?_
  refine xp_aload_n rfl rfl ?_
  refine xp_iload_n rfl rfl ?_
  refine xp_iload_n rfl rfl ?_
  refine xp_iload_n rfl rfl ?_
  refine xp_ivc (t := 19) rfl rfl (Nat.le_of_ble_eq_true rfl) (by decide) (by decide) (by decide) (Nat.le_of_ble_eq_true rfl) rfl (xrcv1 (by decide) (by first | assumption | exact hL.t rfl)) h (by decide) hz ?_
  refine xp_astore rfl (by decide) ?_
  refine xp_iconst (n := 2) rfl (by decide) ?_
  refine xp_ireturn rfl (by decide) (by decide) (by decide) ?_
  rfl
theorem w185 {z z1 : Nat} {T : Nat → Option xT} {R R1 : Nat → Nat → Option Nat} {A A1 : xQ} {w w1 : Nat} {x0 : Int32} {v : Int32} (hL : xLay T R w) (hL1 : xLay T R1 w1) (h : xF 14 [.ref 0, .int x0] (xm z T R A) (.inr (some (.int v)), xm z1 T R1 A1)) : xF 185 [.ref 0, .int x0, .ref 229] (xm z T R A) (.inr (some (.int (nI 0))), xm z1 T R1 (xsJ A1 229 0 v.toInt64)) := by
  refine xF_eq (xF_p (Nat.le_of_ble_eq_true rfl) ?_)
  refine xp_aload_n rfl rfl ?_
  refine xp_iconst (n := 0) rfl (by decide) ?_
  refine xp_aload_n rfl rfl ?_
  refine xp_iload_n rfl rfl ?_
  refine xp_iv rfl rfl (Nat.le_of_ble_eq_true rfl) (by decide) (by decide) (by decide) (Nat.le_of_ble_eq_true rfl) rfl (xrcv1 (by decide) (by first | assumption | exact hL.t rfl)) (h) rfl ?_
  refine xp_i2l rfl ?_
  refine xp_last rfl (by first | assumption | exact hL.t rfl) (by omega) (by omega) ?_
  refine xp_goto 15 rfl (by decide) ?_
  refine xp_iconst (n := 0) rfl (by decide) ?_
  refine xp_ireturn rfl (by decide) (by decide) (by decide) ?_
  rfl
theorem w185_0 {z z1 : Nat} {T : Nat → Option xT} {R R1 : Nat → Nat → Option Nat} {A A1 : xQ} {w : Nat} {x0 : Int32} (hL : xLay T R w) (h : xF 14 [.ref 0, .int x0] (xm z T R A) (.inl 0, xm z1 T R1 A1)) (hz : z1 ≤ 1000000) : xF 185 [.ref 0, .int x0, .ref 229] (xm z T R A) (.inr (some (.int (nI 1))), xm z1 T R1 A1) := by
  refine xF_eq (xF_p (Nat.le_of_ble_eq_true rfl) ?_)
  refine xp_aload_n rfl rfl ?_
  refine xp_iconst (n := 0) rfl (by decide) ?_
  refine xp_aload_n rfl rfl ?_
  refine xp_iload_n rfl rfl ?_
  refine xp_ivc (t := 12) rfl rfl (Nat.le_of_ble_eq_true rfl) (by decide) (by decide) (by decide) (Nat.le_of_ble_eq_true rfl) rfl (xrcv1 (by decide) (by first | assumption | exact hL.t rfl)) h (by decide) hz ?_
  refine xp_astore_n rfl (by decide) ?_
  refine xp_iconst (n := 1) rfl (by decide) ?_
  refine xp_ireturn rfl (by decide) (by decide) (by decide) ?_
  rfl
