-- RUN
/-- what Rel looks at -/
def relB (a j : Nat) : Prop := (190 ≤ a ∧ a ≤ 208) ∨ (210 ≤ a ∧ a ≤ 212) ∨ a = 214 ∨ (a = 189 ∧ ((9 ≤ j ∧ j ≤ 13) ∨ j = 15 ∨ j = 16 ∨ j = 35 ∨ j = 37))
theorem Rel.ext {w : Nat} {A B A2 B2 : xQ} (h : Rel w A B) (hc : COk w A) (h1 : ∀ a j, a ≤ 188 → A2.1 a j = A.1 a j) (h2 : ∀ a j, a ≤ 188 → A2.2 a j = A.2 a j) (g1 : ∀ a j, relB a j → B2.1 a j = B.1 a j) (g2 : ∀ a j, a = 207 ∨ a = 213 → B2.2 a j = B.2 a j) : Rel w A2 B2 := by
  have h0 := hc.1
  have hc3 := hc.cnt
  unfold relB at g1
  obtain ⟨r1, r2, r3, r4, r5⟩ := h
  refine ⟨r1.same (fun a j _ _ => h1 a j (by omega)) (fun a j _ _ => g1 a j (by omega)), r2.same (fun j => h1 _ _ (by omega)) (fun j => h1 _ _ (by omega)) (h1 _ _ (by omega)) (g1 _ _ (by omega)) (g1 _ _ (by omega)) (fun j => g1 _ _ (by omega)), r3.same (fun j => h1 _ _ (by omega)) (h1 _ _ (by omega)) (fun j => h1 _ _ (by omega)) (fun j => h2 _ _ (by omega)) (fun j _ _ _ => g1 _ _ (by omega)) (fun j => g2 _ _ (by omega)), fun u hu => ?_, fun o ho => ?_⟩
  · rw [h1 w 2 (by omega)] at hu
    exact (r4 u hu).away (by omega) (hc.st hu) (fun a j _ _ => h1 a j (by omega)) (fun a j _ _ => h2 a j (by omega)) (fun a _ _ => g1 a _ (by omega)) (fun a j _ _ _ _ => g1 a j (by omega)) (fun j _ => g1 _ j (by omega)) (fun j _ => g2 _ j (by omega))
  · exact (r5 o ho).away (hc.2.1.2.2 o ho) (fun a _ _ => h1 a _ (by omega)) (fun i _ => h1 _ _ (by omega)) (fun i _ => h2 _ _ (by omega)) (fun a _ _ _ => g1 a _ (by omega)) (fun i _ => g1 _ _ (by omega)) (fun i _ => g2 _ _ (by omega))
theorem COk.ext {w : Nat} {A A2 : xQ} (h : COk w A) (h1 : ∀ a j, a ≤ 188 → A2.1 a j = A.1 a j) (h2 : ∀ a j, a ≤ 188 → A2.2 a j = A.2 a j) : COk w A2 := by
  obtain ⟨h0, ⟨w1, w2, w3⟩, g2, g3, g4, g5⟩ := h
  have ehp : ∀ o, A2.1 (w + 3) o = A.1 (w + 3) o := fun o => h1 _ _ (by omega)
  refine ⟨h0, ⟨by rw [h1 w 2 (by omega)]; exact w1, fun u hu => ?_, fun o ho => ?_⟩, g2.same (fun a j _ _ => h1 _ _ (by omega)), g3.same (h1 _ _ (by omega)) ehp, fun u hu i hi => ?_, by rw [h1 w 3 (by omega)]; exact g5⟩
  · rw [h1 w 2 (by omega)] at hu
    exact (w2 u hu).away (fun a j _ _ => h1 a j (by omega)) (fun a j q1 q2 => h2 a j (by omega)) (fun o _ => ehp o)
  · exact (w3 o ho).same ehp (h1 _ _ (by omega)) (h1 _ _ (by omega)) (fun j => h1 _ _ (by omega)) (fun j => h2 _ j (by omega))
  · rw [h1 w 2 (by omega)] at hu
    have hu5 := (w2 u hu).2.1
    rw [h1 _ 3 (by omega)] at hi
    rw [h1 _ 2 (by omega)]
    exact g4 u hu i hi
theorem Rel.thr {w v : Nat} {A B : xQ} (h : Rel w A B) (hc : COk w A) : Rel w A (xsI B 189 14 v) := h.ext hc (fun _ _ _ => rfl) (fun _ _ _ => rfl) (fun a j q => by unfold relB at q; exact xsI_ne (by omega)) (fun _ _ _ => rfl)
theorem Rel.tick {w : Nat} {A B : xQ} (h : Rel w A B) (hc : COk w A) (hn : A.1 w 2 ≠ 0) : Rel w (aTick w A) (xsI (xsI B 189 12 (A.1 11 4 + 1)) 189 11 (A.1 w 4 + 1)) := by
  have h0 := hc.1
  obtain ⟨k1, k2, k3, k4⟩ := aTick_r w A h0
  have hC := h.2.2.1
  refine h.sc hc hn (fun a j q1 q2 => k1 a j (by omega) (by omega)) (fun a j _ => by rw [k2]) (fun a j q => by rw [xsI_ne (by omega), xsI_ne (by omega)]) (fun a j _ => rfl) ?_ ?_ ?_ ?_ (fun i q1 q2 => ?_)
  · rw [xsI_ne (by omega), xsI_ne (by omega), k1 _ _ (by omega) (by omega)]; exact hC.2.1
  · rw [xsI_eq, k4]
  · rw [xsI_ne (by omega), xsI_eq, k3]
  · rw [xsI_ne (by omega), xsI_ne (by omega), k1 _ _ (by omega) (by omega)]; exact hC.2.2.2.2.2.1
  · rw [k1 _ _ (by omega) (by omega)] at q2
    rw [k2]
    exact hC.2.2.2.2.2.2.2.2 i q1 q2
theorem Rel.d0 {w : Nat} {A B : xQ} (h : Rel w A B) (hc : COk w A) (hn : A.1 w 2 ≠ 0) : Rel w (xsI A w 4 0) (xsI B 189 11 0) := by
  have h0 := hc.1
  have hC := h.2.2.1
  refine h.sc hc hn (fun a j q1 q2 => xsI_ne (by omega)) (fun a j _ => rfl) (fun a j q => xsI_ne (by omega)) (fun a j _ => rfl) ?_ ?_ ?_ ?_ (fun i q1 q2 => ?_)
  · rw [xsI_ne (by omega), xsI_ne (by omega)]; exact hC.2.1
  · rw [xsI_eq, xsI_eq]
  · rw [xsI_ne (by omega), xsI_ne (by omega)]; exact hC.2.2.2.2.1
  · rw [xsI_ne (by omega), xsI_ne (by omega)]; exact hC.2.2.2.2.2.1
  · rw [xsI_ne (by omega)] at q2
    exact hC.2.2.2.2.2.2.2.2 i q1 q2
theorem Rel.turn {w v : Nat} {A B : xQ} (h : Rel w A B) (hc : COk w A) (hn : A.1 w 2 ≠ 0) : Rel w (xsI A w 3 v) (xsI B 189 10 v) := by
  have h0 := hc.1
  have hC := h.2.2.1
  refine h.sc hc hn (fun a j q1 q2 => xsI_ne (by omega)) (fun a j _ => rfl) (fun a j q => xsI_ne (by omega)) (fun a j _ => rfl) ?_ ?_ ?_ ?_ (fun i q1 q2 => ?_)
  · rw [xsI_eq, xsI_eq]
  · rw [xsI_ne (by omega), xsI_ne (by omega)]; exact hC.2.2.1
  · rw [xsI_ne (by omega), xsI_ne (by omega)]; exact hC.2.2.2.2.1
  · rw [xsI_ne (by omega), xsI_ne (by omega)]; exact hC.2.2.2.2.2.1
  · rw [xsI_ne (by omega)] at q2
    exact hC.2.2.2.2.2.2.2.2 i q1 q2
theorem l148p {z : Nat} {T : Nat → Option xT} {R : Nat → Nat → Option Nat} {A B : xQ} {w lim n0 t : Nat} {P : xR → Prop} (hL : xLay T R w) (hc : COk w A) (hR : Rel w A B) (hn : A.1 w 2 ≠ 0) (ht : A.1 w 3 = t) (ht3 : t < 3) : ∀ m i, i + m = A.1 w 2 + 1 → 1 ≤ i → (∀ B2, Rel w (aPassL w A m i) B2 → xP 148 241 [(0, .ref 189), (1, .int (nI lim)), (2, .int (nI n0))] [] 0 0 (xm z T R B2) P) → xP 148 188 [(0, .ref 189), (1, .int (nI lim)), (2, .int (nI n0)), (7, .int (nI t)), (8, .int (nI i))] [] 0 0 (xm z T R B) P := by
  have hc3 := hc.cnt
  have h9 := hR.2.2.1.1
  intro m
  induction m with
  | zero =>
    intro i hi h1 hx
    have hy := hx B hR
    refine xp_iload rfl rfl ?_
    refine xp_aload_n rfl rfl ?_
    refine xp_gfi rfl rfl (by decide) (by decide) (by first | assumption | exact hL.t rfl) ?_
    rw [h9]
    refine xp_icgt 241 rfl (by decide) (by omega) (by omega) (fun h194 => ?_) (fun h194 => ?_)
    · skip
      refine xp_weak [(0, .ref 189), (1, .int (nI lim)), (2, .int (nI n0))] (xle_cons rfl (xle_cons rfl (xle_cons rfl (xle_nil _)))) (by simp [xnd]) ?_
      exact hy
    · exfalso; omega
  | succ m ih =>
    intro i hi h1 hx
    have hmod : (t + i) % A.1 w 2 < A.1 w 2 := Nat.mod_lt _ (by omega)
    have e1 := (hR.2.2.2.1 _ hmod).1
    have s1 := (hc.st hmod).1
    have er := nI_rem (m := t + i) (n := A.1 w 2) (by omega) (by omega) (by omega)
    have enz : ¬ nI (A.1 w 2) = 0 := fun z => by
      have := (nI_eq0 (by omega)).mp z
      omega
    unfold aPassL at hx
    rw [ht] at hx
    have e9 : (xsI B 189 10 ((t + i) % A.1 w 2)).1 189 9 = A.1 w 2 := by rw [xsI_ne (by omega)]; exact h9
    by_cases hq : A.1 (w + 11 + 25 * ((t + i) % A.1 w 2)) 2 = 0
    · rw [if_pos hq] at hx
      have hy := hx _ (hR.turn (v := (t + i) % A.1 w 2) hc hn)
      refine xp_iload rfl rfl ?_
      refine xp_aload_n rfl rfl ?_
      refine xp_gfi rfl rfl (by decide) (by decide) (by first | assumption | exact hL.t rfl) ?_
      rw [h9]
      refine xp_icgt 241 rfl (by decide) (by omega) (by omega) (fun h194 => ?_) (fun h194 => ?_)
      · exfalso; omega
      · skip
        refine xp_aload_n rfl rfl ?_
        refine xp_gfa rfl rfl (by decide) (by decide) (by first | assumption | exact hL.t rfl) (by first | assumption | exact hL.r rfl | exact hL.2.2.2.2.2) ?_
        refine xp_iload rfl rfl ?_
        refine xp_iload rfl rfl ?_
        refine xp_iadd rfl ?_
        refine xp_aload_n rfl rfl ?_
        refine xp_gfi rfl rfl (by decide) (by decide) (by first | assumption | exact hL.t rfl) ?_
        rw [h9]
        refine xp_irem rfl enz ?_
        rw [er]
        refine xp_iald rfl (by first | assumption | exact hL.t rfl) (by omega) (by omega) ?_
        rw [e1]
        refine xp_ifne 235 rfl (by decide) (by omega) (fun h212 => ?_) (fun h212 => ?_)
        · exact absurd hq h212
        · skip
          refine xp_aload_n rfl rfl ?_
          refine xp_iload rfl rfl ?_
          refine xp_iload rfl rfl ?_
          refine xp_iadd rfl ?_
          refine xp_aload_n rfl rfl ?_
          refine xp_gfi rfl rfl (by decide) (by decide) (by first | assumption | exact hL.t rfl) ?_
          rw [h9]
          refine xp_irem rfl enz ?_
          rw [er]
          refine xp_pfi rfl rfl (by decide) (by decide) (by decide) (by first | assumption | exact hL.t rfl) ?_
          refine xp_aload_n rfl rfl ?_
          refine xp_gfi rfl rfl (by decide) (by decide) (by first | assumption | exact hL.t rfl) ?_
          rw [e9]
          refine xp_istore rfl (by decide) ?_
          refine xp_iinc rfl rfl (by decide) (nI_inc _) ?_
          refine xp_goto 188 rfl (by decide) ?_
          refine xp_iload rfl rfl ?_
          refine xp_aload_n rfl rfl ?_
          refine xp_gfi rfl rfl (by decide) (by decide) (by first | assumption | exact hL.t rfl) ?_
          rw [e9]
          refine xp_icgt 241 rfl (by decide) (by omega) (by omega) (fun h194 => ?_) (fun h194 => ?_)
          · skip
            refine xp_weak [(0, .ref 189), (1, .int (nI lim)), (2, .int (nI n0))] (xle_cons rfl (xle_cons rfl (xle_cons rfl (xle_nil _)))) (by simp [xnd]) ?_
            exact hy
          · exfalso; omega
    · rw [if_neg hq] at hx
      refine xp_iload rfl rfl ?_
      refine xp_aload_n rfl rfl ?_
      refine xp_gfi rfl rfl (by decide) (by decide) (by first | assumption | exact hL.t rfl) ?_
      rw [h9]
      refine xp_icgt 241 rfl (by decide) (by omega) (by omega) (fun h194 => ?_) (fun h194 => ?_)
      · exfalso; omega
      · skip
        refine xp_aload_n rfl rfl ?_
        refine xp_gfa rfl rfl (by decide) (by decide) (by first | assumption | exact hL.t rfl) (by first | assumption | exact hL.r rfl | exact hL.2.2.2.2.2) ?_
        refine xp_iload rfl rfl ?_
        refine xp_iload rfl rfl ?_
        refine xp_iadd rfl ?_
        refine xp_aload_n rfl rfl ?_
        refine xp_gfi rfl rfl (by decide) (by decide) (by first | assumption | exact hL.t rfl) ?_
        rw [h9]
        refine xp_irem rfl enz ?_
        rw [er]
        refine xp_iald rfl (by first | assumption | exact hL.t rfl) (by omega) (by omega) ?_
        rw [e1]
        refine xp_ifne 235 rfl (by decide) (by omega) (fun h212 => ?_) (fun h212 => ?_)
        · skip
          refine xp_iinc rfl rfl (by decide) (nI_inc _) ?_
          refine xp_goto 188 rfl (by decide) ?_
          refine xp_weak [(0, .ref 189), (1, .int (nI lim)), (2, .int (nI n0)), (7, .int (nI t)), (8, .int (nI (i + 1)))] (xle_cons rfl (xle_cons rfl (xle_cons rfl (xle_cons rfl (xle_cons rfl (xle_nil _)))))) (by simp [xnd]) ?_
          exact ih (i + 1) (by omega) (by omega) hx
        · exact absurd h212 hq
