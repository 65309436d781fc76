-- RUN
/-- what Rel looks at -/
def relB (a j : Nat) : Prop := (190 ≤ a ∧ a ≤ 208) ∨ (210 ≤ a ∧ a ≤ 212) ∨ a = 214 ∨ (a = 189 ∧ ((9 ≤ j ∧ j ≤ 13) ∨ j = 15 ∨ j = 16 ∨ j = 35 ∨ j = 37))
theorem Rel.ext {w : Nat} {A B A2 B2 : xQ} (h : Rel w A B) (hc : COk w A) (h1 : ∀ a j, a ≤ 188 → A2.1 a j = A.1 a j) (h2 : ∀ a j, a ≤ 188 → A2.2 a j = A.2 a j) (g1 : ∀ a j, relB a j → B2.1 a j = B.1 a j) (g2 : ∀ a j, a = 207 ∨ a = 213 → B2.2 a j = B.2 a j) : Rel w A2 B2 := by
  have h0 := hc.1
  have hc3 := hc.cnt
  unfold relB at g1
  obtain ⟨r1, r2, r3, r4, r5⟩ := h
  refine ⟨r1.same (fun a j _ _ => h1 a j (by omega)) (fun a j _ _ => g1 a j (by omega)), r2.same (fun j => h1 _ _ (by omega)) (fun j => h1 _ _ (by omega)) (h1 _ _ (by omega)) (g1 _ _ (by omega)) (g1 _ _ (by omega)) (fun j => g1 _ _ (by omega)), r3.same (fun j => h1 _ _ (by omega)) (h1 _ _ (by omega)) (fun j => h1 _ _ (by omega)) (fun j => h2 _ _ (by omega)) (fun j _ _ _ => g1 _ _ (by omega)) (fun j => g2 _ _ (by omega)), fun u hu => ?_, fun o ho => ?_⟩
  · rw [h1 w 2 (by omega)] at hu
    exact (r4 u hu).away (by omega) (hc.st hu) (fun a j _ _ => h1 a j (by omega)) (fun a j _ _ => h2 a j (by omega)) (fun a _ _ => g1 a _ (by omega)) (fun a j _ _ _ _ => g1 a j (by omega)) (fun j _ => g1 _ j (by omega)) (fun j _ => g2 _ j (by omega))
  · exact (r5 o ho).away (hc.2.1.2.2 o ho) (fun a _ _ => h1 a _ (by omega)) (fun i _ => h1 _ _ (by omega)) (fun i _ => h2 _ _ (by omega)) (fun a _ _ _ => g1 a _ (by omega)) (fun i _ => g1 _ _ (by omega)) (fun i _ => g2 _ _ (by omega))
theorem COk.ext {w : Nat} {A A2 : xQ} (h : COk w A) (h1 : ∀ a j, a ≤ 188 → A2.1 a j = A.1 a j) (h2 : ∀ a j, a ≤ 188 → A2.2 a j = A.2 a j) : COk w A2 := by
  obtain ⟨h0, ⟨w1, w2, w3⟩, g2, g3, g4, g5⟩ := h
  have ehp : ∀ o, A2.1 (w + 3) o = A.1 (w + 3) o := fun o => h1 _ _ (by omega)
  refine ⟨h0, ⟨by rw [h1 w 2 (by omega)]; exact w1, fun u hu => ?_, fun o ho => ?_⟩, g2.same (fun a j _ _ => h1 _ _ (by omega)), g3.same (h1 _ _ (by omega)) ehp, fun u hu i hi => ?_, by rw [h1 w 3 (by omega)]; exact g5⟩
  · rw [h1 w 2 (by omega)] at hu
    exact (w2 u hu).away (fun a j _ _ => h1 a j (by omega)) (fun a j q1 q2 => h2 a j (by omega)) (fun o _ => ehp o)
  · exact (w3 o ho).same ehp (h1 _ _ (by omega)) (h1 _ _ (by omega)) (fun j => h1 _ _ (by omega)) (fun j => h2 _ j (by omega))
  · rw [h1 w 2 (by omega)] at hu
    have hu5 := (w2 u hu).2.1
    rw [h1 _ 3 (by omega)] at hi
    rw [h1 _ 2 (by omega)]
    exact g4 u hu i hi
theorem Rel.thr {w v : Nat} {A B : xQ} (h : Rel w A B) (hc : COk w A) : Rel w A (xsI B 189 14 v) := h.ext hc (fun _ _ _ => rfl) (fun _ _ _ => rfl) (fun a j q => by unfold relB at q; exact xsI_ne (by omega)) (fun _ _ _ => rfl)
theorem Rel.tick {w : Nat} {A B : xQ} (h : Rel w A B) (hc : COk w A) (hn : A.1 w 2 ≠ 0) : Rel w (aTick w A) (xsI (xsI B 189 12 (A.1 11 4 + 1)) 189 11 (A.1 w 4 + 1)) := by
  have h0 := hc.1
  obtain ⟨k1, k2, k3, k4⟩ := aTick_r w A h0
  have hC := h.2.2.1
  refine h.sc hc hn (fun a j q1 q2 => k1 a j (by omega) (by omega)) (fun a j _ => by rw [k2]) (fun a j q => by rw [xsI_ne (by omega), xsI_ne (by omega)]) (fun a j _ => rfl) ?_ ?_ ?_ ?_ (fun i q1 q2 => ?_)
  · rw [xsI_ne (by omega), xsI_ne (by omega), k1 _ _ (by omega) (by omega)]; exact hC.2.1
  · rw [xsI_eq, k4]
  · rw [xsI_ne (by omega), xsI_eq, k3]
  · rw [xsI_ne (by omega), xsI_ne (by omega), k1 _ _ (by omega) (by omega)]; exact hC.2.2.2.2.2.1
  · rw [k1 _ _ (by omega) (by omega)] at q2
    rw [k2]
    exact hC.2.2.2.2.2.2.2.2 i q1 q2
theorem Rel.d0 {w : Nat} {A B : xQ} (h : Rel w A B) (hc : COk w A) (hn : A.1 w 2 ≠ 0) : Rel w (xsI A w 4 0) (xsI B 189 11 0) := by
  have h0 := hc.1
  have hC := h.2.2.1
  refine h.sc hc hn (fun a j q1 q2 => xsI_ne (by omega)) (fun a j _ => rfl) (fun a j q => xsI_ne (by omega)) (fun a j _ => rfl) ?_ ?_ ?_ ?_ (fun i q1 q2 => ?_)
  · rw [xsI_ne (by omega), xsI_ne (by omega)]; exact hC.2.1
  · rw [xsI_eq, xsI_eq]
  · rw [xsI_ne (by omega), xsI_ne (by omega)]; exact hC.2.2.2.2.1
  · rw [xsI_ne (by omega), xsI_ne (by omega)]; exact hC.2.2.2.2.2.1
  · rw [xsI_ne (by omega)] at q2
    exact hC.2.2.2.2.2.2.2.2 i q1 q2
theorem Rel.turn {w v : Nat} {A B : xQ} (h : Rel w A B) (hc : COk w A) (hn : A.1 w 2 ≠ 0) : Rel w (xsI A w 3 v) (xsI B 189 10 v) := by
  have h0 := hc.1
  have hC := h.2.2.1
  refine h.sc hc hn (fun a j q1 q2 => xsI_ne (by omega)) (fun a j _ => rfl) (fun a j q => xsI_ne (by omega)) (fun a j _ => rfl) ?_ ?_ ?_ ?_ (fun i q1 q2 => ?_)
  · rw [xsI_eq, xsI_eq]
  · rw [xsI_ne (by omega), xsI_ne (by omega)]; exact hC.2.2.1
  · rw [xsI_ne (by omega), xsI_ne (by omega)]; exact hC.2.2.2.2.1
  · rw [xsI_ne (by omega), xsI_ne (by omega)]; exact hC.2.2.2.2.2.1
  · rw [xsI_ne (by omega)] at q2
    exact hC.2.2.2.2.2.2.2.2 i q1 q2
theorem aRs_ok {T : Nat → Option xT} {R : Nat → Nat → Option Nat} {w : Nat} {A : xQ} (hW : xW0 T R w) (h : COk w A) (ht : A.1 w 3 < A.1 w 2) (hst : A.1 (aSt w A) 2 = 0) : COk w (aRs w A).2 ∧ Ch w 1 A (aRs w A).2 ∧ (aRs w A).1 < 32 := by
  have hs : aSt w A = w + 11 + 25 * A.1 w 3 := rfl
  have hSk := h.st ht
  rw [← hs] at hSk
  obtain ⟨q1, q2, q3, q4, q5, q6, q7⟩ := hSk
  have hd1 := q3 hst
  have hff : aFr w A = aSt w A + 5 + 4 * (A.1 (aSt w A) 3 - 1) := rfl
  have hfs : aFr w A + 4 = aSt w A + 5 + 4 * A.1 (aSt w A) 3 := by omega
  have hk := q7 (A.1 (aSt w A) 3 - 1) (by omega)
  rw [← hff] at hk
  obtain ⟨p1, p2, p3, p4, p5⟩ := h.2.2.1 _ hk.1
  have hix : aIx w A = aAt A (A.1 (aFr w A) 1) (A.1 (aFr w A) 2) := rfl
  unfold aRs
  split
  · exact ⟨h, (Ch.refl w A).le (by omega), by dsimp only; omega⟩
  · rename_i hi
    have hpl : A.1 (aFr w A) 2 < A.1 3 (A.1 (aFr w A) 1) := by
      by_cases q : A.1 (aFr w A) 2 < A.1 3 (A.1 (aFr w A) 1)
      · exact q
      · exact absurd (by rw [hix]; unfold aAt; rw [if_neg q]) hi
    have hix2 : aIx w A = A.1 (aFr w A) 1 * 30 + A.1 (aFr w A) 2 := by rw [hix]; unfold aAt; rw [if_pos hpl]
    have hI := p4 _ hpl
    rw [← hix2] at hI
    unfold aPerf
    split
    · exact ⟨h, (Ch.refl w A).le (by omega), by dsimp only; omega⟩
    · obtain ⟨z1, z2⟩ := h.do hW ht hs hst hfs (by omega) hI (by omega)
      exact ⟨z1, z2, aDo_lt _ _ _ _ _ _ _⟩
theorem aErr_ok {w t s : Nat} {A : xQ} {r : Nat × xQ} (h : COk w A) (h3 : A.1 w 3 = t) (hs : s = w + 11 + 25 * t) (r1 : COk w r.2) (r2 : Ch w 1 A r.2) (r3 : r.1 < 32) (ht : t < A.1 w 2) : COk w (aErr s r) ∧ Ch w 1 A (aErr s r) := by
  unfold aErr
  split
  · exact ⟨r1, r2⟩
  · have ht2 : t < r.2.1 w 2 := Nat.lt_of_lt_of_le ht r2.2.2.2.2.1
    have hSr := r1.st ht2
    rw [← hs] at hSr
    obtain ⟨v1, v2⟩ := r1.raise ht2 hs r3 (by have := hSr.2.2.2.1; omega) _ (Nat.le_refl _)
    exact ⟨v1, (r2.trans (v2.ch h.1 (by omega))).le (by omega)⟩
theorem l148p {z : Nat} {T : Nat → Option xT} {R : Nat → Nat → Option Nat} {A B : xQ} {w lim n0 t : Nat} {P : xR → Prop} (hL : xLay T R w) (hc : COk w A) (hR : Rel w A B) (hn : A.1 w 2 ≠ 0) (ht : A.1 w 3 = t) (ht3 : t < 3) : ∀ m i, i + m = A.1 w 2 + 1 → 1 ≤ i → (∀ B2, Rel w (aPassL w A m i) B2 → B2.1 189 14 = B.1 189 14 → xP 148 241 [(0, .ref 189), (1, .int (nI lim)), (2, .int (nI n0))] [] 0 0 (xm z T R B2) P) → xP 148 188 [(0, .ref 189), (1, .int (nI lim)), (2, .int (nI n0)), (7, .int (nI t)), (8, .int (nI i))] [] 0 0 (xm z T R B) P := by
  have hc3 := hc.cnt
  have h9 := hR.2.2.1.1
  intro m
  induction m with
  | zero =>
    intro i hi h1 hx
    have hy := hx B hR rfl
    refine xp_iload rfl rfl ?_
    refine xp_aload_n rfl rfl ?_
    refine xp_gfi rfl rfl (by decide) (by decide) (by first | assumption | exact hL.t rfl) ?_
    rw [h9]
    refine xp_icgt 241 rfl (by decide) (by omega) (by omega) (fun h194 => ?_) (fun h194 => ?_)
    · skip
      refine xp_weak [(0, .ref 189), (1, .int (nI lim)), (2, .int (nI n0))] (xle_cons rfl (xle_cons rfl (xle_cons rfl (xle_nil _)))) (by simp [xnd]) ?_
      exact hy
    · exfalso; omega
  | succ m ih =>
    intro i hi h1 hx
    have hmod : (t + i) % A.1 w 2 < A.1 w 2 := Nat.mod_lt _ (by omega)
    have e1 := (hR.2.2.2.1 _ hmod).1
    have s1 := (hc.st hmod).1
    have er := nI_rem (m := t + i) (n := A.1 w 2) (by omega) (by omega) (by omega)
    have enz : ¬ nI (A.1 w 2) = 0 := fun z => by
      have := (nI_eq0 (by omega)).mp z
      omega
    unfold aPassL at hx
    rw [ht] at hx
    have e9 : (xsI B 189 10 ((t + i) % A.1 w 2)).1 189 9 = A.1 w 2 := by rw [xsI_ne (by omega)]; exact h9
    by_cases hq : A.1 (w + 11 + 25 * ((t + i) % A.1 w 2)) 2 = 0
    · rw [if_pos hq] at hx
      have hy := hx _ (hR.turn (v := (t + i) % A.1 w 2) hc hn) (xsI_ne (by omega))
      refine xp_iload rfl rfl ?_
      refine xp_aload_n rfl rfl ?_
      refine xp_gfi rfl rfl (by decide) (by decide) (by first | assumption | exact hL.t rfl) ?_
      rw [h9]
      refine xp_icgt 241 rfl (by decide) (by omega) (by omega) (fun h194 => ?_) (fun h194 => ?_)
      · exfalso; omega
      · skip
        refine xp_aload_n rfl rfl ?_
        refine xp_gfa rfl rfl (by decide) (by decide) (by first | assumption | exact hL.t rfl) (by first | assumption | exact hL.r rfl | exact hL.2.2.2.2.2) ?_
        refine xp_iload rfl rfl ?_
        refine xp_iload rfl rfl ?_
        refine xp_iadd rfl ?_
        refine xp_aload_n rfl rfl ?_
        refine xp_gfi rfl rfl (by decide) (by decide) (by first | assumption | exact hL.t rfl) ?_
        rw [h9]
        refine xp_irem rfl enz ?_
        rw [er]
        refine xp_iald rfl (by first | assumption | exact hL.t rfl) (by omega) (by omega) ?_
        rw [e1]
        refine xp_ifne 235 rfl (by decide) (by omega) (fun h212 => ?_) (fun h212 => ?_)
        · exact absurd hq h212
        · skip
          refine xp_aload_n rfl rfl ?_
          refine xp_iload rfl rfl ?_
          refine xp_iload rfl rfl ?_
          refine xp_iadd rfl ?_
          refine xp_aload_n rfl rfl ?_
          refine xp_gfi rfl rfl (by decide) (by decide) (by first | assumption | exact hL.t rfl) ?_
          rw [h9]
          refine xp_irem rfl enz ?_
          rw [er]
          refine xp_pfi rfl rfl (by decide) (by decide) (by decide) (by first | assumption | exact hL.t rfl) ?_
          refine xp_aload_n rfl rfl ?_
          refine xp_gfi rfl rfl (by decide) (by decide) (by first | assumption | exact hL.t rfl) ?_
          rw [e9]
          refine xp_istore rfl (by decide) ?_
          refine xp_iinc rfl rfl (by decide) (nI_inc _) ?_
          refine xp_goto 188 rfl (by decide) ?_
          refine xp_iload rfl rfl ?_
          refine xp_aload_n rfl rfl ?_
          refine xp_gfi rfl rfl (by decide) (by decide) (by first | assumption | exact hL.t rfl) ?_
          rw [e9]
          refine xp_icgt 241 rfl (by decide) (by omega) (by omega) (fun h194 => ?_) (fun h194 => ?_)
          · skip
            refine xp_weak [(0, .ref 189), (1, .int (nI lim)), (2, .int (nI n0))] (xle_cons rfl (xle_cons rfl (xle_cons rfl (xle_nil _)))) (by simp [xnd]) ?_
            exact hy
          · exfalso; omega
    · rw [if_neg hq] at hx
      refine xp_iload rfl rfl ?_
      refine xp_aload_n rfl rfl ?_
      refine xp_gfi rfl rfl (by decide) (by decide) (by first | assumption | exact hL.t rfl) ?_
      rw [h9]
      refine xp_icgt 241 rfl (by decide) (by omega) (by omega) (fun h194 => ?_) (fun h194 => ?_)
      · exfalso; omega
      · skip
        refine xp_aload_n rfl rfl ?_
        refine xp_gfa rfl rfl (by decide) (by decide) (by first | assumption | exact hL.t rfl) (by first | assumption | exact hL.r rfl | exact hL.2.2.2.2.2) ?_
        refine xp_iload rfl rfl ?_
        refine xp_iload rfl rfl ?_
        refine xp_iadd rfl ?_
        refine xp_aload_n rfl rfl ?_
        refine xp_gfi rfl rfl (by decide) (by decide) (by first | assumption | exact hL.t rfl) ?_
        rw [h9]
        refine xp_irem rfl enz ?_
        rw [er]
        refine xp_iald rfl (by first | assumption | exact hL.t rfl) (by omega) (by omega) ?_
        rw [e1]
        refine xp_ifne 235 rfl (by decide) (by omega) (fun h212 => ?_) (fun h212 => ?_)
        · skip
          refine xp_iinc rfl rfl (by decide) (nI_inc _) ?_
          refine xp_goto 188 rfl (by decide) ?_
          refine xp_weak [(0, .ref 189), (1, .int (nI lim)), (2, .int (nI n0)), (7, .int (nI t)), (8, .int (nI (i + 1)))] (xle_cons rfl (xle_cons rfl (xle_cons rfl (xle_cons rfl (xle_cons rfl (xle_nil _)))))) (by simp [xnd]) ?_
          exact ih (i + 1) (by omega) (by omega) hx
        · exact absurd h212 hq
theorem l148f {z : Nat} {T : Nat → Option xT} {R : Nat → Nat → Option Nat} {A B : xQ} {w lim n0 t s ix yl : Nat} {P : xR → Prop} (hL : xLay T R w) (hc : COk w A) (hR : Rel w A B) (ht : t < A.1 w 2) (h3 : A.1 w 3 = t) (hs : s = w + 11 + 25 * t) (hd : A.1 w 4 ≤ 3) (hyl : yl = 0 ∨ yl = 1) (hy : yl = 1 ↔ (ix ≠ 4294967295 ∧ A.1 4 ix = 27)) (hx : ∀ B2, Rel w (aFin w s ix A) B2 → B2.1 189 14 = B.1 189 14 → xP 148 241 [(0, .ref 189), (1, .int (nI lim)), (2, .int (nI n0))] [] 0 0 (xm z T R B2) P) : xP 148 129 [(0, .ref 189), (1, .int (nI lim)), (2, .int (nI n0)), (5, .int (nI yl))] [] 0 0 (xm z T R B) P := by
  have h0 := hc.1
  have hc3 := hc.cnt
  have hn : A.1 w 2 ≠ 0 := by omega
  have hC := hR.2.2.1
  have h12 := hC.2.2.2.2.1
  have e11 : (xsI B 189 12 (A.1 11 4 + 1)).1 189 11 = A.1 w 4 := by rw [xsI_ne (by omega)]; exact hC.2.2.1
  have hRt := hR.tick hc hn
  obtain ⟨k1, k2, k3, k4⟩ := aTick_r w A h0
  have hCt : COk w (aTick w A) := hc.scal (fun a j q1 q2 => k1 a j (by omega) (by omega)) (fun a j _ => by rw [k2]) (by rw [k1 w 3 (by omega) (by omega)]; omega)
  have hSo := hc.st ht
  rw [← hs] at hSo
  have hRS := hR.2.2.2.1 t ht
  rw [← hs] at hRS
  have x1 : ∀ a j, (a ≠ 189 ∨ (j ≠ 11 ∧ j ≠ 12)) → (xsI (xsI B 189 12 (A.1 11 4 + 1)) 189 11 (A.1 w 4 + 1)).1 a j = B.1 a j := fun a j q => by rw [xsI_ne (by omega), xsI_ne (by omega)]
  have x11 : (xsI (xsI B 189 12 (A.1 11 4 + 1)) 189 11 (A.1 w 4 + 1)).1 189 11 = A.1 w 4 + 1 := xsI_eq
  have x10 : (xsI (xsI B 189 12 (A.1 11 4 + 1)) 189 11 (A.1 w 4 + 1)).1 189 10 = t := by rw [x1 _ _ (by omega), hC.2.1, h3]
  have x199 : (xsI (xsI B 189 12 (A.1 11 4 + 1)) 189 11 (A.1 w 4 + 1)).1 199 t = A.1 s 2 := by rw [x1 _ _ (by omega), hRS.1]
  have hs2 := hSo.1
  generalize hB4 : xsI (xsI B 189 12 (A.1 11 4 + 1)) 189 11 (A.1 w 4 + 1) = B4 at hRt x1 x11 x10 x199
  have hgo : ∀ B5, B5 = B4 → (aFin w s ix A = aTick w A → xP 148 241 [(0, .ref 189), (1, .int (nI lim)), (2, .int (nI n0))] [] 0 0 (xm z T R B5) P) := fun B5 e he => by
    rw [e]
    exact hx B4 (by rw [he]; exact hRt) (x1 _ _ (by omega))
  have hpa : aFin w s ix A = aPass w (aTick w A) → xP 148 188 [(0, .ref 189), (1, .int (nI lim)), (2, .int (nI n0)), (7, .int (nI t)), (8, .int (nI 1))] [] 0 0 (xm z T R (xsI B4 189 11 0)) P := fun he => by
    have hn2 : (aTick w A).1 w 2 ≠ 0 := by rw [k1 w 2 (by omega) (by omega)]; exact hn
    have hR0 := hRt.d0 hCt hn2
    have u1 : ∀ a j, (a ≠ w ∨ j ≠ 4) → (xsI (aTick w A) w 4 0).1 a j = (aTick w A).1 a j := fun a j q => xsI_ne q
    have hC0 : COk w (xsI (aTick w A) w 4 0) := hCt.scal (fun a j q1 q2 => u1 a j (by omega)) (fun a j _ => rfl) (by rw [u1 _ _ (by omega), k1 w 3 (by omega) (by omega)]; omega)
    refine l148p hL hC0 hR0 (by rw [u1 _ _ (by omega)]; exact hn2) (by rw [u1 _ _ (by omega), k1 w 3 (by omega) (by omega)]; exact h3) (by omega) ((aTick w A).1 w 2) 1 (by rw [u1 _ _ (by omega)]; omega) (by omega) (fun B2 hb hb2 => hx B2 ?_ (by rw [hb2, xsI_ne (by omega)]; exact x1 _ _ (by omega)))
    rw [he]
    exact hb
  have y10 : (xsI B4 189 11 0).1 189 10 = t := by rw [xsI_ne (by omega)]; exact x10
  unfold aFin at hgo hpa
  refine xp_aload_n rfl rfl ?_
  refine xp_dup rfl rfl ?_
  refine xp_gfi rfl rfl (by decide) (by decide) (by first | assumption | exact hL.t rfl) ?_
  rw [h12]
  refine xp_iconst (n := 1) rfl (by decide) ?_
  refine xp_iadd rfl ?_
  refine xp_pfi rfl rfl (by decide) (by decide) (by decide) (by first | assumption | exact hL.t rfl) ?_
  refine xp_aload_n rfl rfl ?_
  refine xp_dup rfl rfl ?_
  refine xp_gfi rfl rfl (by decide) (by decide) (by first | assumption | exact hL.t rfl) ?_
  rw [e11]
  refine xp_iconst (n := 1) rfl (by decide) ?_
  refine xp_iadd rfl ?_
  refine xp_pfi rfl rfl (by decide) (by decide) (by decide) (by first | assumption | exact hL.t rfl) ?_
  rw [hB4]
  refine xp_aload_n rfl rfl ?_
  refine xp_gfi rfl rfl (by decide) (by decide) (by first | assumption | exact hL.t rfl) ?_
  rw [x11]
  refine xp_iconst (n := 4) rfl (by decide) ?_
  refine xp_iceq 174 rfl (by decide) (by omega) (by omega) (fun h154 => ?_) (fun h154 => ?_)
  · skip
    refine xp_aload_n rfl rfl ?_
    refine xp_iconst (n := 0) rfl (by decide) ?_
    refine xp_pfi rfl rfl (by decide) (by decide) (by decide) (by first | assumption | exact hL.t rfl) ?_
    refine xp_aload_n rfl rfl ?_
    refine xp_gfi rfl rfl (by decide) (by decide) (by first | assumption | exact hL.t rfl) ?_
    rw [y10]
    refine xp_istore rfl (by decide) ?_
    refine xp_iconst (n := 1) rfl (by decide) ?_
    refine xp_istore rfl (by decide) ?_
    refine xp_weak [(0, .ref 189), (1, .int (nI lim)), (2, .int (nI n0)), (7, .int (nI t)), (8, .int (nI 1))] (xle_cons rfl (xle_cons rfl (xle_cons rfl (xle_cons rfl (xle_cons rfl (xle_nil _)))))) (by simp [xnd]) ?_
    exact hpa (if_pos (by omega))
  · skip
    refine xp_iload rfl rfl ?_
    refine xp_ifne 174 rfl (by decide) (by omega) (fun h159 => ?_) (fun h159 => ?_)
    · skip
      refine xp_aload_n rfl rfl ?_
      refine xp_iconst (n := 0) rfl (by decide) ?_
      refine xp_pfi rfl rfl (by decide) (by decide) (by decide) (by first | assumption | exact hL.t rfl) ?_
      refine xp_aload_n rfl rfl ?_
      refine xp_gfi rfl rfl (by decide) (by decide) (by first | assumption | exact hL.t rfl) ?_
      rw [y10]
      refine xp_istore rfl (by decide) ?_
      refine xp_iconst (n := 1) rfl (by decide) ?_
      refine xp_istore rfl (by decide) ?_
      refine xp_weak [(0, .ref 189), (1, .int (nI lim)), (2, .int (nI n0)), (7, .int (nI t)), (8, .int (nI 1))] (xle_cons rfl (xle_cons rfl (xle_cons rfl (xle_cons rfl (xle_cons rfl (xle_nil _)))))) (by simp [xnd]) ?_
      exact hpa (if_pos (by omega))
    · skip
      refine xp_aload_n rfl rfl ?_
      refine xp_gfa rfl rfl (by decide) (by decide) (by first | assumption | exact hL.t rfl) (by first | assumption | exact hL.r rfl | exact hL.2.2.2.2.2) ?_
      refine xp_aload_n rfl rfl ?_
      refine xp_gfi rfl rfl (by decide) (by decide) (by first | assumption | exact hL.t rfl) ?_
      rw [x10]
      refine xp_iald rfl (by first | assumption | exact hL.t rfl) (by omega) (by omega) ?_
      rw [x199]
      refine xp_ifeq 241 rfl (by decide) (by omega) (fun h171 => ?_) (fun h171 => ?_)
      · skip
        refine xp_weak [(0, .ref 189), (1, .int (nI lim)), (2, .int (nI n0))] (xle_cons rfl (xle_cons rfl (xle_cons rfl (xle_nil _)))) (by simp [xnd]) ?_
        exact hgo _ rfl (if_neg (by omega))
      · skip
        refine xp_aload_n rfl rfl ?_
        refine xp_iconst (n := 0) rfl (by decide) ?_
        refine xp_pfi rfl rfl (by decide) (by decide) (by decide) (by first | assumption | exact hL.t rfl) ?_
        refine xp_aload_n rfl rfl ?_
        refine xp_gfi rfl rfl (by decide) (by decide) (by first | assumption | exact hL.t rfl) ?_
        rw [y10]
        refine xp_istore rfl (by decide) ?_
        refine xp_iconst (n := 1) rfl (by decide) ?_
        refine xp_istore rfl (by decide) ?_
        refine xp_weak [(0, .ref 189), (1, .int (nI lim)), (2, .int (nI n0)), (7, .int (nI t)), (8, .int (nI 1))] (xle_cons rfl (xle_cons rfl (xle_cons rfl (xle_cons rfl (xle_cons rfl (xle_nil _)))))) (by simp [xnd]) ?_
        exact hpa (if_pos (by omega))
theorem TOk.r {w : Nat} {A : xQ} (h : TOk w A) (hr : aRuns w A (A.1 w 2) 0 = 1) : A.1 w 3 < A.1 w 2 ∧ A.1 w 4 ≤ 3 ∧ A.1 (aSt w A) 2 = 0 := by
  have hs := (aRuns_0 w A).mp hr
  obtain ⟨t, h1, h2⟩ := id hs
  obtain ⟨g1, g2, g3⟩ := h (by omega)
  exact ⟨g1, g2, g3 hs⟩
theorem l148 {z : Nat} {T : Nat → Option xT} {R : Nat → Nat → Option Nat} {w lim : Nat} (hL : xLay T R w) (hl3 : lim ≤ 300) : ∀ (n n0 : Nat) (A B : xQ), n0 + n = lim → COk w A → TOk w A → A.1 w 2 ≠ 0 → Rel w A B → A.1 11 3 + n < 2 ^ 31 → xP 148 37 [(0, .ref 189), (1, .int (nI lim)), (2, .int (nI n0))] [] 0 0 (xm z T R B) (fun r => ∃ B2, r = (.inr (some (.int (nI (aRuns w (aRunN w n A) ((aRunN w n A).1 w 2) 0)))), xm z T R B2) ∧ Rel w (aRunN w n A) B2 ∧ nI (B2.1 189 14) = nI (B.1 189 14)) := by
  have hW := hL.w hL.1
  intro n
  induction n with
  | zero =>
    intro n0 A B hn0 hc hTk hn hR hsd
    have hru := m147 (z := z) hL hc hR
    have hle := aRuns_le w A (A.1 w 2) 0
    show xP _ _ _ _ _ _ _ (fun r => ∃ B2, r = (.inr (some (.int (nI (aRuns w A (A.1 w 2) 0)))), xm z T R B2) ∧ Rel w A B2 ∧ nI (B2.1 189 14) = nI (B.1 189 14))
    generalize aRuns w A (A.1 w 2) 0 = ru at hru hle
    refine xp_iload_n rfl rfl ?_
    refine xp_iload_n rfl rfl ?_
    refine xp_icge 247 rfl (by decide) (by omega) (by omega) (fun h39 => ?_) (fun h39 => ?_)
    · skip
      refine xp_aload_n rfl rfl ?_
      refine xp_iv rfl rfl (Nat.le_of_ble_eq_true rfl) (by decide) (by decide) (by decide) (Nat.le_of_ble_eq_true rfl) rfl (xrcv1 (by decide) (by first | assumption | exact hL.t rfl)) (hru) rfl ?_
      refine xp_ifeq 258 rfl (by decide) (by omega) (fun h251 => ?_) (fun h251 => ?_)
      · skip
        refine xp_iconst (n := 0) rfl (by decide) ?_
        refine xp_ireturn rfl (by decide) (by decide) (by decide) ?_
        have e : ru = 0 ∨ ru = 1 := hle
        first | (rw [show ru = 1 by omega]; exact ⟨_, rfl, hR, rfl⟩) | (rw [show ru = 0 by omega]; exact ⟨_, rfl, hR, rfl⟩)
      · skip
        refine xp_iconst (n := 1) rfl (by decide) ?_
        refine xp_goto 259 rfl (by decide) ?_
        refine xp_ireturn rfl (by decide) (by decide) (by decide) ?_
        have e : ru = 0 ∨ ru = 1 := hle
        first | (rw [show ru = 1 by omega]; exact ⟨_, rfl, hR, rfl⟩) | (rw [show ru = 0 by omega]; exact ⟨_, rfl, hR, rfl⟩)
    · exfalso; omega
  | succ n ih =>
    intro n0 A B hn0 hc hTk hn hR hsd
    have hru := m147 (z := z) hL hc hR
    have hle := aRuns_le w A (A.1 w 2) 0
    unfold aRunN
    by_cases hq : aRuns w A (A.1 w 2) 0 = 1
    · rw [if_pos hq]
      rw [hq] at hru
      obtain ⟨t1, t2, t3⟩ := hTk.r hq
      have h0 := hc.1
      have hc3 := hc.cnt
      obtain ⟨t, ht⟩ : ∃ t, A.1 w 3 = t := ⟨_, rfl⟩
      have hs : aSt w A = w + 11 + 25 * t := by unfold aSt; rw [ht]
      have ht2 : t < A.1 w 2 := by omega
      obtain ⟨c1, c2, c3, c4, c5, c6⟩ := hc.step hW t1 t3 t2
      have hSo := hc.st ht2
      rw [← hs] at hSo
      have hd1 := hSo.2.2.1 t3
      have hd5 := hSo.2.1
      obtain ⟨k, hk⟩ : ∃ k, k + 1 = A.1 (aSt w A) 3 := ⟨A.1 (aSt w A) 3 - 1, by omega⟩
      have hff : aFr w A = aSt w A + 5 + 4 * (A.1 (aSt w A) 3 - 1) := rfl
      have hT : Top w A t k (aFr w A) (5 * t + k) := ⟨ht2, by rw [← hs]; exact hk, by rw [hff, ← hs]; omega, rfl⟩
      obtain ⟨b1, b2, b3, b4, b5, b6, b7⟩ := hT.b hc
      have hF := hT.ok hc
      obtain ⟨q1, q2, q3, q4, q5⟩ := hT.g hR
      have h10 : B.1 189 10 = t := by rw [hR.2.2.1.2.1, ht]
      have hRS := hR.2.2.2.1 t ht2
      rw [← hs] at hRS
      have e201 := hRS.2.2.1
      have etop := m122 (z := z) (B := B) hL (by rw [h10]; exact b1) (by rw [h10, e201]; omega)
      rw [h10, e201, show 5 * t + A.1 (aSt w A) 3 - 1 = 5 * t + k by omega] at etop
      obtain ⟨p1, p2, p3, p4, p5⟩ := hc.2.2.1 _ b7
      obtain ⟨g1, g2, g3, g4, g5⟩ := hR.1 _ b7
      have hp31 := hF.2.1
      obtain ⟨B1, z1, z2⟩ := m145 (z := z) hL hc hR hT ht hs t3 (by omega)
      -- what the step has done
      have hr : COk w (aRs w A).2 ∧ Ch w 1 A (aRs w A).2 ∧ (aRs w A).1 < 32 := aRs_ok hW hc t1 t3
      obtain ⟨r1, r2, r3⟩ := hr
      have hst2 : t < (aRs w A).2.1 w 2 := Nat.lt_of_lt_of_le ht2 r2.2.2.2.2.1
      have hih := ih (n0 + 1) (aStep w A) 
      have hend : ∀ B2, Rel w (aErr (aSt w A) (aRs w A)) B2 → nI (B2.1 189 14) = nI (B.1 189 14) → ∀ yl, (yl = 0 ∨ yl = 1) → (yl = 1 ↔ (aIx w A ≠ 4294967295 ∧ A.1 4 (aIx w A) = 27)) → xP 148 129 [(0, .ref 189), (1, .int (nI lim)), (2, .int (nI n0)), (5, .int (nI yl))] [] 0 0 (xm z T R B2) (fun r => ∃ B2, r = (.inr (some (.int (nI (aRuns w (aRunN w n (aStep w A)) ((aRunN w n (aStep w A)).1 w 2) 0)))), xm z T R B2) ∧ Rel w (aRunN w n (aStep w A)) B2 ∧ nI (B2.1 189 14) = nI (B.1 189 14)) := by
        intro B2 hB2 hth yl hyl hy
        obtain ⟨e1, e2⟩ := aErr_ok hc ht hs r1 r2 r3 ht2
        refine l148f (ix := aIx w A) hL e1 hB2 (Nat.lt_of_lt_of_le ht2 e2.2.2.2.2.1) (by rw [e2.1]; exact ht) hs (by rw [e2.2.1]; exact t2) hyl (by rw [e2.2.2.2.2.2 _ _ (by omega) (by omega)]; exact hy) (fun B3 hB3 hth3 => ?_)
        refine xp_iinc rfl rfl (by decide) (nI_inc _) ?_
        refine xp_goto 37 rfl (by decide) ?_
        refine xp_weak [(0, .ref 189), (1, .int (nI lim)), (2, .int (nI (n0 + 1)))] (xle_cons rfl (xle_cons rfl (xle_cons rfl (xle_nil _)))) (by simp [xnd]) ?_
        have hfi := ih (n0 + 1) (aStep w A) B3 (by omega) c1 c2 (by omega) hB3 (by omega)
        rw [hth3, hth] at hfi
        exact hfi
      by_cases he : (aRs w A).1 = 0
      · have ee : aErr (aSt w A) (aRs w A) = (aRs w A).2 := by unfold aErr; rw [if_pos he]
        rw [ee] at hend
        have zt := frT hL (y := 145) rfl gM1 z1
        rw [he] at z1
        refine xp_iload_n rfl rfl ?_
        refine xp_iload_n rfl rfl ?_
        refine xp_icge 247 rfl (by decide) (by omega) (by omega) (fun h39 => ?_) (fun h39 => ?_)
        · exfalso; omega
        · skip
          refine xp_aload_n rfl rfl ?_
          refine xp_iv rfl rfl (Nat.le_of_ble_eq_true rfl) (by decide) (by decide) (by decide) (Nat.le_of_ble_eq_true rfl) rfl (xrcv1 (by decide) (by first | assumption | exact hL.t rfl)) (hru) rfl ?_
          refine xp_ifeq 247 rfl (by decide) (by omega) (fun h46 => ?_) (fun h46 => ?_)
          · exfalso; omega
          · skip
            refine xp_aload_n rfl rfl ?_
            refine xp_iv rfl rfl (Nat.le_of_ble_eq_true rfl) (by decide) (by decide) (by decide) (Nat.le_of_ble_eq_true rfl) rfl (xrcv1 (by decide) (by first | assumption | exact hL.t rfl)) (etop) rfl ?_
            refine xp_istore_n rfl (by decide) ?_
            refine xp_bipush (n := 30) rfl (by decide) ?_
            refine xp_aload_n rfl rfl ?_
            refine xp_gfa rfl rfl (by decide) (by decide) (by first | assumption | exact hL.t rfl) (by first | assumption | exact hL.r rfl | exact hL.2.2.2.2.2) ?_
            refine xp_iload_n rfl rfl ?_
            refine xp_iald rfl (by first | assumption | exact hL.t rfl) (by omega) (by omega) ?_
            rw [q1]
            refine xp_imul rfl ?_
            refine xp_aload_n rfl rfl ?_
            refine xp_gfa rfl rfl (by decide) (by decide) (by first | assumption | exact hL.t rfl) (by first | assumption | exact hL.r rfl | exact hL.2.2.2.2.2) ?_
            refine xp_iload_n rfl rfl ?_
            refine xp_iald rfl (by first | assumption | exact hL.t rfl) (by omega) (by omega) ?_
            rw [q2]
            refine xp_iadd rfl ?_
            refine xp_istore rfl (by decide) ?_
            refine xp_aload_n rfl rfl ?_
            refine xp_gfa rfl rfl (by decide) (by decide) (by first | assumption | exact hL.t rfl) (by first | assumption | exact hL.r rfl | exact hL.2.2.2.2.2) ?_
            refine xp_iload_n rfl rfl ?_
            refine xp_iald rfl (by first | assumption | exact hL.t rfl) (by omega) (by omega) ?_
            rw [q2]
            refine xp_aload_n rfl rfl ?_
            refine xp_gfa rfl rfl (by decide) (by decide) (by first | assumption | exact hL.t rfl) (by first | assumption | exact hL.r rfl | exact hL.2.2.2.2.2) ?_
            refine xp_aload_n rfl rfl ?_
            refine xp_gfa rfl rfl (by decide) (by decide) (by first | assumption | exact hL.t rfl) (by first | assumption | exact hL.r rfl | exact hL.2.2.2.2.2) ?_
            refine xp_iload_n rfl rfl ?_
            refine xp_iald rfl (by first | assumption | exact hL.t rfl) (by omega) (by omega) ?_
            rw [q1]
            refine xp_iald rfl (by first | assumption | exact hL.t rfl) (by omega) (by omega) ?_
            rw [g2]
            refine xp_icge 108 rfl (by decide) (by omega) (by omega) (fun h89 => ?_) (fun h89 => ?_)
            · skip
              refine xp_iconst (n := 0) rfl (by decide) ?_
              refine xp_istore rfl (by decide) ?_
              refine xp_aload_n rfl rfl ?_
              refine xp_iload_n rfl rfl ?_
              refine xp_iv rfl rfl (Nat.le_of_ble_eq_true rfl) (by decide) (by decide) (by decide) (Nat.le_of_ble_eq_true rfl) rfl (xrcv1 (by decide) (by first | assumption | exact hL.t rfl)) (z1) rfl ?_
              refine xp_istore rfl (by decide) ?_
              refine xp_iload rfl rfl ?_
              refine xp_ifle 129 rfl (by decide) (by omega) (fun h120 => ?_) (fun h120 => ?_)
              · skip
                first
                  | (refine xp_weak [(0, .ref 189), (1, .int (nI lim)), (2, .int (nI n0)), (5, .int (nI 1))] (xle_cons rfl (xle_cons rfl (xle_cons rfl (xle_cons rfl (xle_nil _))))) (by simp [xnd]) ?_; refine hend B1 z2 zt 1 (Or.inr rfl) ⟨fun _ => ?_, fun _ => rfl⟩; have ex : aIx w A = A.1 (aFr w A) 1 * 30 + A.1 (aFr w A) 2 := (by unfold aIx aAt; rw [if_pos h89]); rw [ex]; exact ⟨by omega, h101⟩)
                  | (refine xp_weak [(0, .ref 189), (1, .int (nI lim)), (2, .int (nI n0)), (5, .int (nI 0))] (xle_cons rfl (xle_cons rfl (xle_cons rfl (xle_cons rfl (xle_nil _))))) (by simp [xnd]) ?_; refine hend B1 z2 zt 0 (Or.inl rfl) ⟨fun z => by omega, fun z => ?_⟩; have ex : aIx w A = A.1 (aFr w A) 1 * 30 + A.1 (aFr w A) 2 := (by unfold aIx aAt; rw [if_pos h89]); rw [ex] at z; exact absurd z.2 h101)
                  | (refine xp_weak [(0, .ref 189), (1, .int (nI lim)), (2, .int (nI n0)), (5, .int (nI 0))] (xle_cons rfl (xle_cons rfl (xle_cons rfl (xle_cons rfl (xle_nil _))))) (by simp [xnd]) ?_; refine hend B1 z2 zt 0 (Or.inl rfl) ⟨fun z => by omega, fun z => ?_⟩; have ex : aIx w A = 4294967295 := (by unfold aIx aAt; rw [if_neg (by omega)]); exact absurd ex z.1)
              · exfalso; omega
            · skip
              refine xp_aload_n rfl rfl ?_
              refine xp_gfa rfl rfl (by decide) (by decide) (by first | assumption | exact hL.t rfl) (by first | assumption | exact hL.r rfl | exact hL.2.2.2.2.2) ?_
              refine xp_iload rfl rfl ?_
              refine xp_iald rfl (by first | assumption | exact hL.t rfl) (by omega) (by omega) ?_
              rw [(g4 _ h89).1]
              have i27 := (p4 _ h89).1
              refine xp_bipush (n := 27) rfl (by decide) ?_
              refine xp_icne 108 rfl (by decide) (by omega) (by omega) (fun h101 => ?_) (fun h101 => ?_)
              · skip
                refine xp_iconst (n := 0) rfl (by decide) ?_
                refine xp_istore rfl (by decide) ?_
                refine xp_aload_n rfl rfl ?_
                refine xp_iload_n rfl rfl ?_
                refine xp_iv rfl rfl (Nat.le_of_ble_eq_true rfl) (by decide) (by decide) (by decide) (Nat.le_of_ble_eq_true rfl) rfl (xrcv1 (by decide) (by first | assumption | exact hL.t rfl)) (z1) rfl ?_
                refine xp_istore rfl (by decide) ?_
                refine xp_iload rfl rfl ?_
                refine xp_ifle 129 rfl (by decide) (by omega) (fun h120 => ?_) (fun h120 => ?_)
                · skip
                  first
                    | (refine xp_weak [(0, .ref 189), (1, .int (nI lim)), (2, .int (nI n0)), (5, .int (nI 1))] (xle_cons rfl (xle_cons rfl (xle_cons rfl (xle_cons rfl (xle_nil _))))) (by simp [xnd]) ?_; refine hend B1 z2 zt 1 (Or.inr rfl) ⟨fun _ => ?_, fun _ => rfl⟩; have ex : aIx w A = A.1 (aFr w A) 1 * 30 + A.1 (aFr w A) 2 := (by unfold aIx aAt; rw [if_pos h89]); rw [ex]; exact ⟨by omega, h101⟩)
                    | (refine xp_weak [(0, .ref 189), (1, .int (nI lim)), (2, .int (nI n0)), (5, .int (nI 0))] (xle_cons rfl (xle_cons rfl (xle_cons rfl (xle_cons rfl (xle_nil _))))) (by simp [xnd]) ?_; refine hend B1 z2 zt 0 (Or.inl rfl) ⟨fun z => by omega, fun z => ?_⟩; have ex : aIx w A = A.1 (aFr w A) 1 * 30 + A.1 (aFr w A) 2 := (by unfold aIx aAt; rw [if_pos h89]); rw [ex] at z; exact absurd z.2 h101)
                    | (refine xp_weak [(0, .ref 189), (1, .int (nI lim)), (2, .int (nI n0)), (5, .int (nI 0))] (xle_cons rfl (xle_cons rfl (xle_cons rfl (xle_cons rfl (xle_nil _))))) (by simp [xnd]) ?_; refine hend B1 z2 zt 0 (Or.inl rfl) ⟨fun z => by omega, fun z => ?_⟩; have ex : aIx w A = 4294967295 := (by unfold aIx aAt; rw [if_neg (by omega)]); exact absurd ex z.1)
                · exfalso; omega
              · skip
                refine xp_iconst (n := 1) rfl (by decide) ?_
                refine xp_goto 109 rfl (by decide) ?_
                refine xp_istore rfl (by decide) ?_
                refine xp_aload_n rfl rfl ?_
                refine xp_iload_n rfl rfl ?_
                refine xp_iv rfl rfl (Nat.le_of_ble_eq_true rfl) (by decide) (by decide) (by decide) (Nat.le_of_ble_eq_true rfl) rfl (xrcv1 (by decide) (by first | assumption | exact hL.t rfl)) (z1) rfl ?_
                refine xp_istore rfl (by decide) ?_
                refine xp_iload rfl rfl ?_
                refine xp_ifle 129 rfl (by decide) (by omega) (fun h120 => ?_) (fun h120 => ?_)
                · skip
                  first
                    | (refine xp_weak [(0, .ref 189), (1, .int (nI lim)), (2, .int (nI n0)), (5, .int (nI 1))] (xle_cons rfl (xle_cons rfl (xle_cons rfl (xle_cons rfl (xle_nil _))))) (by simp [xnd]) ?_; refine hend B1 z2 zt 1 (Or.inr rfl) ⟨fun _ => ?_, fun _ => rfl⟩; have ex : aIx w A = A.1 (aFr w A) 1 * 30 + A.1 (aFr w A) 2 := (by unfold aIx aAt; rw [if_pos h89]); rw [ex]; exact ⟨by omega, h101⟩)
                    | (refine xp_weak [(0, .ref 189), (1, .int (nI lim)), (2, .int (nI n0)), (5, .int (nI 0))] (xle_cons rfl (xle_cons rfl (xle_cons rfl (xle_cons rfl (xle_nil _))))) (by simp [xnd]) ?_; refine hend B1 z2 zt 0 (Or.inl rfl) ⟨fun z => by omega, fun z => ?_⟩; have ex : aIx w A = A.1 (aFr w A) 1 * 30 + A.1 (aFr w A) 2 := (by unfold aIx aAt; rw [if_pos h89]); rw [ex] at z; exact absurd z.2 h101)
                    | (refine xp_weak [(0, .ref 189), (1, .int (nI lim)), (2, .int (nI n0)), (5, .int (nI 0))] (xle_cons rfl (xle_cons rfl (xle_cons rfl (xle_cons rfl (xle_nil _))))) (by simp [xnd]) ?_; refine hend B1 z2 zt 0 (Or.inl rfl) ⟨fun z => by omega, fun z => ?_⟩; have ex : aIx w A = 4294967295 := (by unfold aIx aAt; rw [if_neg (by omega)]); exact absurd ex z.1)
                · exfalso; omega
      · have ee : aErr (aSt w A) (aRs w A) = aRaise (aRs w A).2 (aSt w A) (aRs w A).1 ((aRs w A).2.1 (aSt w A) 3) := by unfold aErr; rw [if_neg he]
        rw [ee] at hend
        obtain ⟨B2, y1, y2⟩ := m146 (z := z) (e := (aRs w A).1) hL r1 z2 hst2 (by rw [r2.1]; exact ht) hs r3
        have zt0 : nI (B1.1 189 14) = nI (B.1 189 14) := frT hL (y := 145) rfl gM1 z1
        have zt : nI (B2.1 189 14) = nI (B.1 189 14) := (frT hL (y := 146) rfl gM1 y1).trans zt0
        clear z2
        have z2 := y2
        refine xp_iload_n rfl rfl ?_
        refine xp_iload_n rfl rfl ?_
        refine xp_icge 247 rfl (by decide) (by omega) (by omega) (fun h39 => ?_) (fun h39 => ?_)
        · exfalso; omega
        · skip
          refine xp_aload_n rfl rfl ?_
          refine xp_iv rfl rfl (Nat.le_of_ble_eq_true rfl) (by decide) (by decide) (by decide) (Nat.le_of_ble_eq_true rfl) rfl (xrcv1 (by decide) (by first | assumption | exact hL.t rfl)) (hru) rfl ?_
          refine xp_ifeq 247 rfl (by decide) (by omega) (fun h46 => ?_) (fun h46 => ?_)
          · exfalso; omega
          · skip
            refine xp_aload_n rfl rfl ?_
            refine xp_iv rfl rfl (Nat.le_of_ble_eq_true rfl) (by decide) (by decide) (by decide) (Nat.le_of_ble_eq_true rfl) rfl (xrcv1 (by decide) (by first | assumption | exact hL.t rfl)) (etop) rfl ?_
            refine xp_istore_n rfl (by decide) ?_
            refine xp_bipush (n := 30) rfl (by decide) ?_
            refine xp_aload_n rfl rfl ?_
            refine xp_gfa rfl rfl (by decide) (by decide) (by first | assumption | exact hL.t rfl) (by first | assumption | exact hL.r rfl | exact hL.2.2.2.2.2) ?_
            refine xp_iload_n rfl rfl ?_
            refine xp_iald rfl (by first | assumption | exact hL.t rfl) (by omega) (by omega) ?_
            rw [q1]
            refine xp_imul rfl ?_
            refine xp_aload_n rfl rfl ?_
            refine xp_gfa rfl rfl (by decide) (by decide) (by first | assumption | exact hL.t rfl) (by first | assumption | exact hL.r rfl | exact hL.2.2.2.2.2) ?_
            refine xp_iload_n rfl rfl ?_
            refine xp_iald rfl (by first | assumption | exact hL.t rfl) (by omega) (by omega) ?_
            rw [q2]
            refine xp_iadd rfl ?_
            refine xp_istore rfl (by decide) ?_
            refine xp_aload_n rfl rfl ?_
            refine xp_gfa rfl rfl (by decide) (by decide) (by first | assumption | exact hL.t rfl) (by first | assumption | exact hL.r rfl | exact hL.2.2.2.2.2) ?_
            refine xp_iload_n rfl rfl ?_
            refine xp_iald rfl (by first | assumption | exact hL.t rfl) (by omega) (by omega) ?_
            rw [q2]
            refine xp_aload_n rfl rfl ?_
            refine xp_gfa rfl rfl (by decide) (by decide) (by first | assumption | exact hL.t rfl) (by first | assumption | exact hL.r rfl | exact hL.2.2.2.2.2) ?_
            refine xp_aload_n rfl rfl ?_
            refine xp_gfa rfl rfl (by decide) (by decide) (by first | assumption | exact hL.t rfl) (by first | assumption | exact hL.r rfl | exact hL.2.2.2.2.2) ?_
            refine xp_iload_n rfl rfl ?_
            refine xp_iald rfl (by first | assumption | exact hL.t rfl) (by omega) (by omega) ?_
            rw [q1]
            refine xp_iald rfl (by first | assumption | exact hL.t rfl) (by omega) (by omega) ?_
            rw [g2]
            refine xp_icge 108 rfl (by decide) (by omega) (by omega) (fun h89 => ?_) (fun h89 => ?_)
            · skip
              refine xp_iconst (n := 0) rfl (by decide) ?_
              refine xp_istore rfl (by decide) ?_
              refine xp_aload_n rfl rfl ?_
              refine xp_iload_n rfl rfl ?_
              refine xp_iv rfl rfl (Nat.le_of_ble_eq_true rfl) (by decide) (by decide) (by decide) (Nat.le_of_ble_eq_true rfl) rfl (xrcv1 (by decide) (by first | assumption | exact hL.t rfl)) (z1) rfl ?_
              refine xp_istore rfl (by decide) ?_
              refine xp_iload rfl rfl ?_
              refine xp_ifle 129 rfl (by decide) (by omega) (fun h120 => ?_) (fun h120 => ?_)
              · exfalso; omega
              · skip
                refine xp_aload_n rfl rfl ?_
                refine xp_iload rfl rfl ?_
                refine xp_iv rfl rfl (Nat.le_of_ble_eq_true rfl) (by decide) (by decide) (by decide) (Nat.le_of_ble_eq_true rfl) rfl (xrcv1 (by decide) (by first | assumption | exact hL.t rfl)) (y1) rfl ?_
                first
                  | (refine xp_weak [(0, .ref 189), (1, .int (nI lim)), (2, .int (nI n0)), (5, .int (nI 1))] (xle_cons rfl (xle_cons rfl (xle_cons rfl (xle_cons rfl (xle_nil _))))) (by simp [xnd]) ?_; refine hend B2 z2 zt 1 (Or.inr rfl) ⟨fun _ => ?_, fun _ => rfl⟩; have ex : aIx w A = A.1 (aFr w A) 1 * 30 + A.1 (aFr w A) 2 := (by unfold aIx aAt; rw [if_pos h89]); rw [ex]; exact ⟨by omega, h101⟩)
                  | (refine xp_weak [(0, .ref 189), (1, .int (nI lim)), (2, .int (nI n0)), (5, .int (nI 0))] (xle_cons rfl (xle_cons rfl (xle_cons rfl (xle_cons rfl (xle_nil _))))) (by simp [xnd]) ?_; refine hend B2 z2 zt 0 (Or.inl rfl) ⟨fun z => by omega, fun z => ?_⟩; have ex : aIx w A = A.1 (aFr w A) 1 * 30 + A.1 (aFr w A) 2 := (by unfold aIx aAt; rw [if_pos h89]); rw [ex] at z; exact absurd z.2 h101)
                  | (refine xp_weak [(0, .ref 189), (1, .int (nI lim)), (2, .int (nI n0)), (5, .int (nI 0))] (xle_cons rfl (xle_cons rfl (xle_cons rfl (xle_cons rfl (xle_nil _))))) (by simp [xnd]) ?_; refine hend B2 z2 zt 0 (Or.inl rfl) ⟨fun z => by omega, fun z => ?_⟩; have ex : aIx w A = 4294967295 := (by unfold aIx aAt; rw [if_neg (by omega)]); exact absurd ex z.1)
            · skip
              refine xp_aload_n rfl rfl ?_
              refine xp_gfa rfl rfl (by decide) (by decide) (by first | assumption | exact hL.t rfl) (by first | assumption | exact hL.r rfl | exact hL.2.2.2.2.2) ?_
              refine xp_iload rfl rfl ?_
              refine xp_iald rfl (by first | assumption | exact hL.t rfl) (by omega) (by omega) ?_
              rw [(g4 _ h89).1]
              have i27 := (p4 _ h89).1
              refine xp_bipush (n := 27) rfl (by decide) ?_
              refine xp_icne 108 rfl (by decide) (by omega) (by omega) (fun h101 => ?_) (fun h101 => ?_)
              · skip
                refine xp_iconst (n := 0) rfl (by decide) ?_
                refine xp_istore rfl (by decide) ?_
                refine xp_aload_n rfl rfl ?_
                refine xp_iload_n rfl rfl ?_
                refine xp_iv rfl rfl (Nat.le_of_ble_eq_true rfl) (by decide) (by decide) (by decide) (Nat.le_of_ble_eq_true rfl) rfl (xrcv1 (by decide) (by first | assumption | exact hL.t rfl)) (z1) rfl ?_
                refine xp_istore rfl (by decide) ?_
                refine xp_iload rfl rfl ?_
                refine xp_ifle 129 rfl (by decide) (by omega) (fun h120 => ?_) (fun h120 => ?_)
                · exfalso; omega
                · skip
                  refine xp_aload_n rfl rfl ?_
                  refine xp_iload rfl rfl ?_
                  refine xp_iv rfl rfl (Nat.le_of_ble_eq_true rfl) (by decide) (by decide) (by decide) (Nat.le_of_ble_eq_true rfl) rfl (xrcv1 (by decide) (by first | assumption | exact hL.t rfl)) (y1) rfl ?_
                  first
                    | (refine xp_weak [(0, .ref 189), (1, .int (nI lim)), (2, .int (nI n0)), (5, .int (nI 1))] (xle_cons rfl (xle_cons rfl (xle_cons rfl (xle_cons rfl (xle_nil _))))) (by simp [xnd]) ?_; refine hend B2 z2 zt 1 (Or.inr rfl) ⟨fun _ => ?_, fun _ => rfl⟩; have ex : aIx w A = A.1 (aFr w A) 1 * 30 + A.1 (aFr w A) 2 := (by unfold aIx aAt; rw [if_pos h89]); rw [ex]; exact ⟨by omega, h101⟩)
                    | (refine xp_weak [(0, .ref 189), (1, .int (nI lim)), (2, .int (nI n0)), (5, .int (nI 0))] (xle_cons rfl (xle_cons rfl (xle_cons rfl (xle_cons rfl (xle_nil _))))) (by simp [xnd]) ?_; refine hend B2 z2 zt 0 (Or.inl rfl) ⟨fun z => by omega, fun z => ?_⟩; have ex : aIx w A = A.1 (aFr w A) 1 * 30 + A.1 (aFr w A) 2 := (by unfold aIx aAt; rw [if_pos h89]); rw [ex] at z; exact absurd z.2 h101)
                    | (refine xp_weak [(0, .ref 189), (1, .int (nI lim)), (2, .int (nI n0)), (5, .int (nI 0))] (xle_cons rfl (xle_cons rfl (xle_cons rfl (xle_cons rfl (xle_nil _))))) (by simp [xnd]) ?_; refine hend B2 z2 zt 0 (Or.inl rfl) ⟨fun z => by omega, fun z => ?_⟩; have ex : aIx w A = 4294967295 := (by unfold aIx aAt; rw [if_neg (by omega)]); exact absurd ex z.1)
              · skip
                refine xp_iconst (n := 1) rfl (by decide) ?_
                refine xp_goto 109 rfl (by decide) ?_
                refine xp_istore rfl (by decide) ?_
                refine xp_aload_n rfl rfl ?_
                refine xp_iload_n rfl rfl ?_
                refine xp_iv rfl rfl (Nat.le_of_ble_eq_true rfl) (by decide) (by decide) (by decide) (Nat.le_of_ble_eq_true rfl) rfl (xrcv1 (by decide) (by first | assumption | exact hL.t rfl)) (z1) rfl ?_
                refine xp_istore rfl (by decide) ?_
                refine xp_iload rfl rfl ?_
                refine xp_ifle 129 rfl (by decide) (by omega) (fun h120 => ?_) (fun h120 => ?_)
                · exfalso; omega
                · skip
                  refine xp_aload_n rfl rfl ?_
                  refine xp_iload rfl rfl ?_
                  refine xp_iv rfl rfl (Nat.le_of_ble_eq_true rfl) (by decide) (by decide) (by decide) (Nat.le_of_ble_eq_true rfl) rfl (xrcv1 (by decide) (by first | assumption | exact hL.t rfl)) (y1) rfl ?_
                  first
                    | (refine xp_weak [(0, .ref 189), (1, .int (nI lim)), (2, .int (nI n0)), (5, .int (nI 1))] (xle_cons rfl (xle_cons rfl (xle_cons rfl (xle_cons rfl (xle_nil _))))) (by simp [xnd]) ?_; refine hend B2 z2 zt 1 (Or.inr rfl) ⟨fun _ => ?_, fun _ => rfl⟩; have ex : aIx w A = A.1 (aFr w A) 1 * 30 + A.1 (aFr w A) 2 := (by unfold aIx aAt; rw [if_pos h89]); rw [ex]; exact ⟨by omega, h101⟩)
                    | (refine xp_weak [(0, .ref 189), (1, .int (nI lim)), (2, .int (nI n0)), (5, .int (nI 0))] (xle_cons rfl (xle_cons rfl (xle_cons rfl (xle_cons rfl (xle_nil _))))) (by simp [xnd]) ?_; refine hend B2 z2 zt 0 (Or.inl rfl) ⟨fun z => by omega, fun z => ?_⟩; have ex : aIx w A = A.1 (aFr w A) 1 * 30 + A.1 (aFr w A) 2 := (by unfold aIx aAt; rw [if_pos h89]); rw [ex] at z; exact absurd z.2 h101)
                    | (refine xp_weak [(0, .ref 189), (1, .int (nI lim)), (2, .int (nI n0)), (5, .int (nI 0))] (xle_cons rfl (xle_cons rfl (xle_cons rfl (xle_cons rfl (xle_nil _))))) (by simp [xnd]) ?_; refine hend B2 z2 zt 0 (Or.inl rfl) ⟨fun z => by omega, fun z => ?_⟩; have ex : aIx w A = 4294967295 := (by unfold aIx aAt; rw [if_neg (by omega)]); exact absurd ex z.1)
    · rw [if_neg hq]
      have hru0 : aRuns w A (A.1 w 2) 0 = 0 := by omega
      rw [hru0] at hru ⊢
      refine xp_iload_n rfl rfl ?_
      refine xp_iload_n rfl rfl ?_
      refine xp_icge 247 rfl (by decide) (by omega) (by omega) (fun h39 => ?_) (fun h39 => ?_)
      · exfalso; omega
      · skip
        refine xp_aload_n rfl rfl ?_
        refine xp_iv rfl rfl (Nat.le_of_ble_eq_true rfl) (by decide) (by decide) (by decide) (Nat.le_of_ble_eq_true rfl) rfl (xrcv1 (by decide) (by first | assumption | exact hL.t rfl)) (hru) rfl ?_
        refine xp_ifeq 247 rfl (by decide) (by omega) (fun h46 => ?_) (fun h46 => ?_)
        · skip
          refine xp_aload_n rfl rfl ?_
          refine xp_iv rfl rfl (Nat.le_of_ble_eq_true rfl) (by decide) (by decide) (by decide) (Nat.le_of_ble_eq_true rfl) rfl (xrcv1 (by decide) (by first | assumption | exact hL.t rfl)) (hru) rfl ?_
          refine xp_ifeq 258 rfl (by decide) (by omega) (fun h251 => ?_) (fun h251 => ?_)
          · skip
            refine xp_iconst (n := 0) rfl (by decide) ?_
            refine xp_ireturn rfl (by decide) (by decide) (by decide) ?_
            exact ⟨_, rfl, hR, rfl⟩
          · exfalso; omega
        · exfalso; omega
