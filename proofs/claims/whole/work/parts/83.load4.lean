-- load: the reference's bytes and values
/-- the two readers are as far -/
def RR (u : Nat) (A B : xQ) : Prop := B.1 189 35 = A.1 99 1 ∧ (∀ i, i < A.1 99 1 → B.1 214 i = A.1 100 i) ∧ B.1 189 38 ≤ 2 ∧ B.1 189 39 ≤ 2401 ∧ (∀ o, o < 24 → B.1 225 o < 4294967296 ∧ B.1 227 o < 4294967296) ∧ (A.1 102 2 = 4294967294 → B.1 189 38 = 0 ∧ B.1 189 37 = 4294967294 ∧ B.1 189 39 = A.1 102 4 ∧ B.1 189 53 = A.1 (u + 2) 4 ∧ (∀ o, o < A.1 (u + 2) 4 → B.1 225 o = A.1 (u + 3) o) ∧ ((B.1 189 54 = 0 ∧ A.1 102 5 = 24) ∨ (B.1 189 54 = 1 ∧ B.1 189 40 = A.1 102 5))) ∧ (¬ A.1 102 2 = 4294967294 → B.1 189 38 ≠ 0 ∧ B.1 189 37 = A.1 102 2)
/-- what the reference keeps: cells c0 to c1 (and the results t0 to t1), frames f0 to f1, threads t0 to t1, objects o0 to o1 aside -/
def KB (c0 c1 f0 f1 t0 t1 o0 o1 : Nat) (B B2 : xQ) : Prop := (∀ a j, a ≠ 189 → a ≠ 225 → (a ≠ 224 ∨ ((j < c0 ∨ c1 ≤ j) ∧ (j < 150 + t0 ∨ 150 + t1 ≤ j))) → (a < 220 ∨ 223 < a ∨ j < f0 ∨ f1 ≤ j) → (a < 217 ∨ 219 < a ∨ j < t0 ∨ t1 ≤ j) → (a < 226 ∨ 227 < a ∨ j < o0 ∨ o1 ≤ j) → B2.1 a j = B.1 a j) ∧ (∀ a j, (a ≠ 228 ∨ ((j < c0 ∨ c1 ≤ j) ∧ (j < 150 + t0 ∨ 150 + t1 ≤ j))) → B2.2 a j = B.2 a j) ∧ (∀ j, j ≠ 37 → j ≠ 38 → j ≠ 39 → j ≠ 53 → B2.1 189 j = B.1 189 j) ∧ (B2.1 189 38 = 2 ↔ B.1 189 38 = 2)
section KB
variable {c0 c1 f0 f1 t0 t1 o0 o1 : Nat} {B C D : xQ}
theorem KB.refl (B : xQ) : KB c0 c1 f0 f1 t0 t1 o0 o1 B B := ⟨fun _ _ _ _ _ _ _ _ => rfl, fun _ _ _ => rfl, fun _ _ _ _ _ => rfl, Iff.rfl⟩
theorem KB.trans (h : KB c0 c1 f0 f1 t0 t1 o0 o1 B C) (g : KB c0 c1 f0 f1 t0 t1 o0 o1 C D) : KB c0 c1 f0 f1 t0 t1 o0 o1 B D := ⟨fun a j q1 q2 q3 q4 q5 q6 => (g.1 a j q1 q2 q3 q4 q5 q6).trans (h.1 a j q1 q2 q3 q4 q5 q6), fun a j q => (g.2.1 a j q).trans (h.2.1 a j q), fun j q1 q2 q3 q4 => (g.2.2.1 j q1 q2 q3 q4).trans (h.2.2.1 j q1 q2 q3 q4), g.2.2.2.trans h.2.2.2⟩
theorem KB.mono {c2 c3 f2 f3 t2 t3 o2 o3 : Nat} (h : KB c0 c1 f0 f1 t0 t1 o0 o1 B C) (hc : c1 ≤ c0 ∨ (c2 ≤ c0 ∧ c1 ≤ c3) ∨ (150 + t2 ≤ c0 ∧ c1 ≤ 150 + t3)) (hf : f1 ≤ f0 ∨ (f2 ≤ f0 ∧ f1 ≤ f3)) (ht : t1 ≤ t0 ∨ (t2 ≤ t0 ∧ t1 ≤ t3)) (ho : o1 ≤ o0 ∨ (o2 ≤ o0 ∧ o1 ≤ o3)) : KB c2 c3 f2 f3 t2 t3 o2 o3 B C := ⟨fun a j q1 q2 q3 q4 q5 q6 => h.1 a j q1 q2 (by omega) (by omega) (by omega) (by omega), fun a j q => h.2.1 a j (by omega), h.2.2.1, h.2.2.2⟩
theorem KB.up {c2 c3 f2 f3 t2 t3 o2 o3 : Nat} (h : KB 0 0 0 0 0 0 0 0 B C) : KB c2 c3 f2 f3 t2 t3 o2 o3 B C := h.mono (by omega) (by omega) (by omega) (by omega)
end KB
section RR
variable {u : Nat} {A A2 B B2 : xQ}
theorem RR.mk' (hR : RR u A B) (hu : u = 12 ∨ u = 103) (hA : ∀ a j, (a ≠ 102 ∨ (j ≠ 2 ∧ j ≠ 4)) → A2.1 a j = A.1 a j) (hB : ∀ a j, (a ≠ 189 ∨ (j ≠ 37 ∧ j ≠ 38 ∧ j ≠ 39)) → B2.1 a j = B.1 a j) (h38 : B2.1 189 38 ≤ 2) (h39 : B2.1 189 39 ≤ 2401) (hn : A2.1 102 2 = 4294967294 → A.1 102 2 = 4294967294 ∧ B2.1 189 38 = 0 ∧ B2.1 189 37 = 4294967294 ∧ B2.1 189 39 = A2.1 102 4) (hf : ¬ A2.1 102 2 = 4294967294 → B2.1 189 38 ≠ 0 ∧ B2.1 189 37 = A2.1 102 2) : RR u A2 B2 := by
  obtain ⟨r1, r2, r3, r4, r5, r6, r7⟩ := hR
  refine ⟨by rw [hA 99 1 (by omega), hB 189 35 (by omega)]; exact r1, fun i hi => ?_, h38, h39, fun o ho => by rw [hB 225 o (by omega), hB 227 o (by omega)]; exact r5 o ho, fun q => ?_, hf⟩
  · rw [hA 99 1 (by omega)] at hi
    rw [hA 100 i (by omega), hB 214 i (by omega)]
    exact r2 i hi
  · obtain ⟨q1, q2, q3, q4⟩ := hn q
    obtain ⟨s1, s2, s3, s4, s5, s6⟩ := r6 q1
    rw [hA (u + 2) 4 (by omega), hA 102 5 (by omega), hB 189 53 (by omega), hB 189 54 (by omega), hB 189 40 (by omega)]
    exact ⟨q2, q3, q4, s4, fun o ho => by rw [hA _ _ (by omega), hB _ _ (by omega)]; exact s5 o ho, s6⟩
/-- what the readers look at is left alone -/
theorem RR.oth (hR : RR u A B) (eA : ∀ a j, a = 99 ∨ a = 100 ∨ a = 102 ∨ (a = u + 2 ∧ j = 4) ∨ a = u + 3 → A2.1 a j = A.1 a j) (eB : ∀ a j, (a = 189 ∧ (j = 35 ∨ j = 37 ∨ j = 38 ∨ j = 39 ∨ j = 40 ∨ j = 53 ∨ j = 54)) ∨ a = 214 ∨ a = 225 → B2.1 a j = B.1 a j) (e7 : ∀ o, o < 24 → B2.1 227 o < 4294967296) : RR u A2 B2 := by
  obtain ⟨r1, r2, r3, r4, r5, r6, r7⟩ := hR
  refine ⟨by rw [eA 99 1 (by omega), eB 189 35 (by omega)]; exact r1, fun i hi => ?_, by rw [eB 189 38 (by omega)]; exact r3, by rw [eB 189 39 (by omega)]; exact r4, fun o ho => ⟨by rw [eB 225 o (by omega)]; exact (r5 o ho).1, e7 o ho⟩, fun q => ?_, fun q => ?_⟩
  · rw [eA 99 1 (by omega)] at hi
    rw [eA 100 i (by omega), eB 214 i (by omega)]
    exact r2 i hi
  · rw [eA 102 2 (by omega)] at q
    obtain ⟨s1, s2, s3, s4, s5, s6⟩ := r6 q
    rw [eA (u + 2) 4 (by omega), eA 102 5 (by omega), eA 102 4 (by omega), eB 189 53 (by omega), eB 189 54 (by omega), eB 189 40 (by omega), eB 189 38 (by omega), eB 189 37 (by omega), eB 189 39 (by omega)]
    exact ⟨s1, s2, s3, s4, fun o ho => by rw [eA _ _ (by omega), eB _ _ (by omega)]; exact s5 o ho, s6⟩
  · rw [eA 102 2 (by omega)] at q ⊢
    rw [eB 189 38 (by omega), eB 189 37 (by omega)]
    exact r7 q
end RR
theorem m160a {z : Nat} {T : Nat → Option xT} {R : Nat → Nat → Option Nat} {B : xQ} {w p c : Nat} (hL : xLay T R w) (h : B.1 189 38 ≠ 0) (h2 : B.1 189 38 ≤ 2) : xF 160 [.ref 189, .int (nI p), .int (nI c)] (xm z T R B) (.inr none, xm z T R B) := by
  refine xF_eq (xF_p (Nat.le_of_ble_eq_true rfl) ?_)
  refine xp_aload_n rfl rfl ?_
  refine xp_gfi rfl rfl (by decide) (by decide) (by first | assumption | exact hL.t rfl) ?_
  refine xp_ifle 8 rfl (by decide) (by omega) (fun h4 => ?_) (fun h4 => ?_)
  · exfalso; omega
  · skip
    refine xp_return rfl (by decide) (by decide) (by decide) ?_
    rfl
theorem m160b {z : Nat} {T : Nat → Option xT} {R : Nat → Nat → Option Nat} {B : xQ} {w p c : Nat} (hL : xLay T R w) (h : B.1 189 38 = 0) : xF 160 [.ref 189, .int (nI p), .int (nI c)] (xm z T R B) (.inr none, xm z T R (xsI (xsI B 189 38 c) 189 37 p)) := by
  refine xF_eq (xF_p (Nat.le_of_ble_eq_true rfl) ?_)
  refine xp_aload_n rfl rfl ?_
  refine xp_gfi rfl rfl (by decide) (by decide) (by first | assumption | exact hL.t rfl) ?_
  rw [h]
  refine xp_ifle 8 rfl (by decide) (by omega) (fun h4 => ?_) (fun h4 => ?_)
  · skip
    refine xp_aload_n rfl rfl ?_
    refine xp_iload_n rfl rfl ?_
    refine xp_pfi rfl rfl (by decide) (by decide) (by decide) (by first | assumption | exact hL.t rfl) ?_
    refine xp_aload_n rfl rfl ?_
    refine xp_iload_n rfl rfl ?_
    refine xp_pfi rfl rfl (by decide) (by decide) (by decide) (by first | assumption | exact hL.t rfl) ?_
    refine xp_return rfl (by decide) (by decide) (by decide) ?_
    rfl
  · exfalso; omega
theorem m161 {z : Nat} {T : Nat → Option xT} {R : Nat → Nat → Option Nat} {A B : xQ} {w u lo hi c : Nat} (hL : xLay T R w) (hu : u = 12 ∨ u = 103) (hI : CI u A) (hR : RR u A B) (hlo : A.1 102 2 = 4294967294 → lo ≤ hi ∧ hi ≤ 255) (hc : c = 1 ∨ c = 2) : ∃ x B2, xF 161 [.ref 189, .int (nI lo), .int (nI hi), .int (nI c)] (xm z T R B) (.inr (some (.int (nI x))), xm z T R B2) ∧ RR u (aRb lo hi A).2 B2 ∧ x < 256 ∧ ((aRb lo hi A).2.1 102 2 = 4294967294 → x = (aRb lo hi A).1) ∧ (¬ (aRb lo hi A).2.1 102 2 = 4294967294 → x = 0 ∨ x < lo ∨ hi < x) ∧ (∀ a j, (a ≠ 189 ∨ (j ≠ 37 ∧ j ≠ 38 ∧ j ≠ 39)) → B2.1 a j = B.1 a j) ∧ B2.2 = B.2 ∧ B2.1 189 38 = (if A.1 102 2 = 4294967294 then (if (aRb lo hi A).2.1 102 2 = 4294967294 then 0 else if A.1 102 4 < A.1 99 1 then c else 1) else B.1 189 38) := by
  obtain ⟨r1, r2, r3, r4, r5, r6, r7⟩ := id hR
  obtain ⟨i1, i2, i3, i4, -⟩ := id hI
  unfold aRb
  by_cases hn : A.1 102 2 = 4294967294
  · obtain ⟨s1, s2, s3, s4, s5, s6⟩ := r6 hn
    obtain ⟨l1, l2⟩ := hlo hn
    rw [if_pos hn, if_pos hn]
    by_cases hp : A.1 102 4 < A.1 99 1
    · have hb := i2 _ hp
      have hb2 := r2 _ hp
      by_cases hr : A.1 102 4 < A.1 99 1 ∧ lo ≤ A.1 100 (A.1 102 4) ∧ A.1 100 (A.1 102 4) ≤ hi
      · rw [if_pos hr]
        have em : mIn (A.1 100 (A.1 102 4)) lo hi = 1 := by rw [mIn_p (by omega) (by omega) (by omega), if_pos hr.2]
        refine ⟨A.1 100 (A.1 102 4), xsI B 189 39 (A.1 102 4 + 1), ?_, ?_, hb, fun _ => rfl, fun q => absurd (by show (xsI A 102 4 _).1 102 2 = _; rw [xsI_ne (by omega)]; exact hn) q, fun a j q => xsI_ne (by omega), rfl, ?_⟩
        · have x1 : (xsI B 189 39 (A.1 102 4 + 1)).1 189 39 = A.1 102 4 + 1 := xsI_eq
          have x2 : (xsI B 189 39 (A.1 102 4 + 1)).1 214 (A.1 102 4) = A.1 100 (A.1 102 4) := by rw [xsI_ne (by omega)]; exact hb2
          refine xF_eq (xF_p (Nat.le_of_ble_eq_true rfl) ?_)
          refine xp_aload_n rfl rfl ?_
          refine xp_gfi rfl rfl (by decide) (by decide) (by first | assumption | exact hL.t rfl) ?_
          rw [s1]
          refine xp_ifle 9 rfl (by decide) (by omega) (fun h4 => ?_) (fun h4 => ?_)
          · skip
            refine xp_aload_n rfl rfl ?_
            refine xp_gfi rfl rfl (by decide) (by decide) (by first | assumption | exact hL.t rfl) ?_
            refine xp_aload_n rfl rfl ?_
            refine xp_gfi rfl rfl (by decide) (by decide) (by first | assumption | exact hL.t rfl) ?_
            rw [r1, s3]
            refine xp_iclt 31 rfl (by decide) (by omega) (by omega) (fun h17 => ?_) (fun h17 => ?_)
            · skip
              refine xp_aload_n rfl rfl ?_
              refine xp_gfa rfl rfl (by decide) (by decide) (by first | assumption | exact hL.t rfl) (by first | assumption | exact hL.r rfl | exact hL.2.2.2.2.2) ?_
              refine xp_aload_n rfl rfl ?_
              refine xp_gfi rfl rfl (by decide) (by decide) (by first | assumption | exact hL.t rfl) ?_
              rw [s3]
              refine xp_iald rfl (by first | assumption | exact hL.t rfl) (by omega) (by omega) ?_
              rw [hb2]
              refine xp_iload_n rfl rfl ?_
              refine xp_iload_n rfl rfl ?_
              refine xp_is rfl rfl rfl (Nat.le_of_ble_eq_true rfl) (by decide) (by decide) (by decide) (Nat.le_of_ble_eq_true rfl) rfl (xrcv0 (by decide) _ _) (m112 (by omega) (by omega) (by omega)) rfl ?_
              rw [em]
              refine xp_ifne 57 rfl (by decide) (by omega) (fun h45 => ?_) (fun h45 => ?_)
              · skip
                refine xp_aload_n rfl rfl ?_
                refine xp_dup rfl rfl ?_
                refine xp_gfi rfl rfl (by decide) (by decide) (by first | assumption | exact hL.t rfl) ?_
                rw [s3]
                refine xp_iconst (n := 1) rfl (by decide) ?_
                refine xp_iadd rfl ?_
                refine xp_pfi rfl rfl (by decide) (by decide) (by decide) (by first | assumption | exact hL.t rfl) ?_
                refine xp_aload_n rfl rfl ?_
                refine xp_gfa rfl rfl (by decide) (by decide) (by first | assumption | exact hL.t rfl) (by first | assumption | exact hL.r rfl | exact hL.2.2.2.2.2) ?_
                refine xp_aload_n rfl rfl ?_
                refine xp_gfi rfl rfl (by decide) (by decide) (by first | assumption | exact hL.t rfl) ?_
                rw [x1]
                refine xp_iconst (n := 1) rfl (by decide) ?_
                refine xp_isub rfl (by omega) ?_
                rw [show A.1 102 4 + 1 - 1 = A.1 102 4 by omega]
                refine xp_iald rfl (by first | assumption | exact hL.t rfl) (by omega) (by omega) ?_
                rw [x2]
                refine xp_ireturn rfl (by decide) (by decide) (by decide) ?_
                rfl
              · exfalso; omega
            · exfalso; omega
          · exfalso; omega
        · refine hR.mk' hu (fun a j q => xsI_ne (by omega)) (fun a j q => xsI_ne (by omega)) (by rw [xsI_ne (by omega)]; omega) (by rw [xsI_eq]; omega) (fun _ => ⟨hn, by rw [xsI_ne (by omega)]; exact s1, by rw [xsI_ne (by omega)]; exact s2, by rw [xsI_eq, xsI_eq]⟩) (fun q => absurd (by show (xsI A 102 4 _).1 102 2 = _; rw [xsI_ne (by omega)]; exact hn) q)
        · show _ = if (xsI A 102 4 _).1 102 2 = 4294967294 then 0 else _
          rw [xsI_ne (by omega), xsI_ne (by omega), if_pos hn]; exact s1
      · rw [if_neg hr]
        have em : mIn (A.1 100 (A.1 102 4)) lo hi = 0 := by rw [mIn_p (by omega) (by omega) (by omega), if_neg (fun q => hr ⟨hp, q⟩)]
        have hw := m160b (z := z) (B := B) (p := A.1 102 4) (c := c) hL s1
        have y1 : (xsI (xsI B 189 38 c) 189 37 (A.1 102 4)).1 189 39 = A.1 102 4 := by rw [xsI_ne (by omega), xsI_ne (by omega)]; exact s3
        have x1 : (xsI (xsI (xsI B 189 38 c) 189 37 (A.1 102 4)) 189 39 (A.1 102 4 + 1)).1 189 39 = A.1 102 4 + 1 := xsI_eq
        have x2 : (xsI (xsI (xsI B 189 38 c) 189 37 (A.1 102 4)) 189 39 (A.1 102 4 + 1)).1 214 (A.1 102 4) = A.1 100 (A.1 102 4) := by rw [xsI_ne (by omega), xsI_ne (by omega), xsI_ne (by omega)]; exact hb2
        have nf : ¬ (xsI A 102 2 (A.1 102 4)).1 102 2 = 4294967294 := by rw [xsI_eq]; omega
        refine ⟨A.1 100 (A.1 102 4), xsI (xsI (xsI B 189 38 c) 189 37 (A.1 102 4)) 189 39 (A.1 102 4 + 1), ?_, ?_, hb, fun q => absurd q nf, fun _ => by omega, fun a j q => by rw [xsI_ne (by omega), xsI_ne (by omega), xsI_ne (by omega)], rfl, ?_⟩
        · skip
          refine xF_eq (xF_p (Nat.le_of_ble_eq_true rfl) ?_)
          refine xp_aload_n rfl rfl ?_
          refine xp_gfi rfl rfl (by decide) (by decide) (by first | assumption | exact hL.t rfl) ?_
          rw [s1]
          refine xp_ifle 9 rfl (by decide) (by omega) (fun h4 => ?_) (fun h4 => ?_)
          · skip
            refine xp_aload_n rfl rfl ?_
            refine xp_gfi rfl rfl (by decide) (by decide) (by first | assumption | exact hL.t rfl) ?_
            refine xp_aload_n rfl rfl ?_
            refine xp_gfi rfl rfl (by decide) (by decide) (by first | assumption | exact hL.t rfl) ?_
            rw [r1, s3]
            refine xp_iclt 31 rfl (by decide) (by omega) (by omega) (fun h17 => ?_) (fun h17 => ?_)
            · skip
              refine xp_aload_n rfl rfl ?_
              refine xp_gfa rfl rfl (by decide) (by decide) (by first | assumption | exact hL.t rfl) (by first | assumption | exact hL.r rfl | exact hL.2.2.2.2.2) ?_
              refine xp_aload_n rfl rfl ?_
              refine xp_gfi rfl rfl (by decide) (by decide) (by first | assumption | exact hL.t rfl) ?_
              rw [s3]
              refine xp_iald rfl (by first | assumption | exact hL.t rfl) (by omega) (by omega) ?_
              rw [hb2]
              refine xp_iload_n rfl rfl ?_
              refine xp_iload_n rfl rfl ?_
              refine xp_is rfl rfl rfl (Nat.le_of_ble_eq_true rfl) (by decide) (by decide) (by decide) (Nat.le_of_ble_eq_true rfl) rfl (xrcv0 (by decide) _ _) (m112 (by omega) (by omega) (by omega)) rfl ?_
              rw [em]
              refine xp_ifne 57 rfl (by decide) (by omega) (fun h45 => ?_) (fun h45 => ?_)
              · exfalso; omega
              · skip
                refine xp_aload_n rfl rfl ?_
                refine xp_aload_n rfl rfl ?_
                refine xp_gfi rfl rfl (by decide) (by decide) (by first | assumption | exact hL.t rfl) ?_
                rw [s3]
                refine xp_iload_n rfl rfl ?_
                refine xp_iv rfl rfl (Nat.le_of_ble_eq_true rfl) (by decide) (by decide) (by decide) (Nat.le_of_ble_eq_true rfl) rfl (xrcv1 (by decide) (by first | assumption | exact hL.t rfl)) (hw) rfl ?_
                refine xp_aload_n rfl rfl ?_
                refine xp_dup rfl rfl ?_
                refine xp_gfi rfl rfl (by decide) (by decide) (by first | assumption | exact hL.t rfl) ?_
                rw [y1]
                refine xp_iconst (n := 1) rfl (by decide) ?_
                refine xp_iadd rfl ?_
                refine xp_pfi rfl rfl (by decide) (by decide) (by decide) (by first | assumption | exact hL.t rfl) ?_
                refine xp_aload_n rfl rfl ?_
                refine xp_gfa rfl rfl (by decide) (by decide) (by first | assumption | exact hL.t rfl) (by first | assumption | exact hL.r rfl | exact hL.2.2.2.2.2) ?_
                refine xp_aload_n rfl rfl ?_
                refine xp_gfi rfl rfl (by decide) (by decide) (by first | assumption | exact hL.t rfl) ?_
                rw [x1]
                refine xp_iconst (n := 1) rfl (by decide) ?_
                refine xp_isub rfl (by omega) ?_
                rw [show A.1 102 4 + 1 - 1 = A.1 102 4 by omega]
                refine xp_iald rfl (by first | assumption | exact hL.t rfl) (by omega) (by omega) ?_
                rw [x2]
                refine xp_ireturn rfl (by decide) (by decide) (by decide) ?_
                rfl
            · exfalso; omega
          · exfalso; omega
        · refine hR.mk' hu (fun a j q => xsI_ne (by omega)) (fun a j q => by rw [xsI_ne (by omega), xsI_ne (by omega), xsI_ne (by omega)]) (by rw [xsI_ne (by omega), xsI_ne (by omega), xsI_eq]; omega) (by rw [xsI_eq]; omega) (fun q => absurd q nf) (fun _ => ⟨by rw [xsI_ne (by omega), xsI_ne (by omega), xsI_eq]; omega, by rw [xsI_ne (by omega), xsI_eq, xsI_eq]⟩)
        · rw [if_neg nf, if_pos hp, xsI_ne (by omega), xsI_ne (by omega), xsI_eq]
    · have hr : ¬ (A.1 102 4 < A.1 99 1 ∧ lo ≤ A.1 100 (A.1 102 4) ∧ A.1 100 (A.1 102 4) ≤ hi) := fun q => hp q.1
      rw [if_neg hr]
      have hw := m160b (z := z) (B := B) (p := A.1 99 1) (c := 1) hL s1
      have nf : ¬ (xsI A 102 2 (A.1 102 4)).1 102 2 = 4294967294 := by rw [xsI_eq]; omega
      refine ⟨0, xsI (xsI B 189 38 1) 189 37 (A.1 99 1), ?_, ?_, by omega, fun q => absurd q nf, fun _ => Or.inl rfl, fun a j q => by rw [xsI_ne (by omega), xsI_ne (by omega)], rfl, ?_⟩
      · skip
        refine xF_eq (xF_p (Nat.le_of_ble_eq_true rfl) ?_)
        refine xp_aload_n rfl rfl ?_
        refine xp_gfi rfl rfl (by decide) (by decide) (by first | assumption | exact hL.t rfl) ?_
        rw [s1]
        refine xp_ifle 9 rfl (by decide) (by omega) (fun h4 => ?_) (fun h4 => ?_)
        · skip
          refine xp_aload_n rfl rfl ?_
          refine xp_gfi rfl rfl (by decide) (by decide) (by first | assumption | exact hL.t rfl) ?_
          refine xp_aload_n rfl rfl ?_
          refine xp_gfi rfl rfl (by decide) (by decide) (by first | assumption | exact hL.t rfl) ?_
          rw [r1, s3]
          refine xp_iclt 31 rfl (by decide) (by omega) (by omega) (fun h17 => ?_) (fun h17 => ?_)
          · exfalso; omega
          · skip
            refine xp_aload_n rfl rfl ?_
            refine xp_aload_n rfl rfl ?_
            refine xp_gfi rfl rfl (by decide) (by decide) (by first | assumption | exact hL.t rfl) ?_
            rw [r1]
            refine xp_iconst (n := 1) rfl (by decide) ?_
            refine xp_iv rfl rfl (Nat.le_of_ble_eq_true rfl) (by decide) (by decide) (by decide) (Nat.le_of_ble_eq_true rfl) rfl (xrcv1 (by decide) (by first | assumption | exact hL.t rfl)) (hw) rfl ?_
            refine xp_iconst (n := 0) rfl (by decide) ?_
            refine xp_ireturn rfl (by decide) (by decide) (by decide) ?_
            rfl
        · exfalso; omega
      · refine hR.mk' hu (fun a j q => xsI_ne (by omega)) (fun a j q => by rw [xsI_ne (by omega), xsI_ne (by omega)]) (by rw [xsI_ne (by omega), xsI_eq]; omega) (by rw [xsI_ne (by omega), xsI_ne (by omega)]; omega) (fun q => absurd q nf) (fun _ => ⟨by rw [xsI_ne (by omega), xsI_eq]; omega, by rw [xsI_eq, xsI_eq]; omega⟩)
      · rw [if_neg nf, if_neg hp, xsI_ne (by omega), xsI_eq]
  · rw [if_neg hn, if_neg hn]
    obtain ⟨s1, s2⟩ := r7 hn
    refine ⟨0, B, ?_, hR, by omega, fun q => absurd q hn, fun _ => Or.inl rfl, fun _ _ _ => rfl, rfl, rfl⟩
    refine xF_eq (xF_p (Nat.le_of_ble_eq_true rfl) ?_)
    refine xp_aload_n rfl rfl ?_
    refine xp_gfi rfl rfl (by decide) (by decide) (by first | assumption | exact hL.t rfl) ?_
    refine xp_ifle 9 rfl (by decide) (by omega) (fun h4 => ?_) (fun h4 => ?_)
    · exfalso; omega
    · skip
      refine xp_iconst (n := 0) rfl (by decide) ?_
      refine xp_ireturn rfl (by decide) (by decide) (by decide) ?_
      rfl
theorem m161k {z : Nat} {T : Nat → Option xT} {R : Nat → Nat → Option Nat} {A B : xQ} {w u lo hi : Nat} (hL : xLay T R w) (hu : u = 12 ∨ u = 103) (hI : CI u A) (hR : RR u A B) (hlo : A.1 102 2 = 4294967294 → lo ≤ hi ∧ hi ≤ 255) : ∃ x B2, xF 161 [.ref 189, .int (nI lo), .int (nI hi), .int (nI 1)] (xm z T R B) (.inr (some (.int (nI x))), xm z T R B2) ∧ RR u (aRb lo hi A).2 B2 ∧ x < 256 ∧ ((aRb lo hi A).2.1 102 2 = 4294967294 → x = (aRb lo hi A).1) ∧ (¬ (aRb lo hi A).2.1 102 2 = 4294967294 → x = 0 ∨ x < lo ∨ hi < x) ∧ KB 0 0 0 0 0 0 0 0 B B2 := by
  obtain ⟨x, B2, h1, h2, h3, h4, h5, h6, h7, h8⟩ := m161 (z := z) (c := 1) hL hu hI hR hlo (by omega)
  refine ⟨x, B2, h1, h2, h3, h4, h5, fun a j q1 _ _ _ _ _ => h6 a j (by omega), fun a j _ => by rw [h7], fun j q1 q2 q3 _ => h6 189 j (by omega), ?_⟩
  rw [h8]
  by_cases hn : A.1 102 2 = 4294967294
  · rw [if_pos hn, (hR.2.2.2.2.2.1 hn).1]
    split
    · exact Iff.rfl
    · split
      · exact ⟨fun q => by omega, fun q => by omega⟩
      · exact ⟨fun q => by omega, fun q => by omega⟩
  · rw [if_neg hn]
theorem m162 {z : Nat} {T : Nat → Option xT} {R : Nat → Nat → Option Nat} {A B : xQ} {w u k : Nat} (hL : xLay T R w) (hu : u = 12 ∨ u = 103) (hI : CI u A) (hl : 1 ≤ A.1 102 5) (hR : RR u A B) (hn : A.1 102 2 = 4294967294) (hk : k = 3 ∨ k = 4) : ∃ x B2, xF 162 [.ref 189, .int (nI k)] (xm z T R B) (.inr (some (.int (nI x))), xm z T R B2) ∧ RR u (aRo u k A).2 B2 ∧ x < 256 ∧ ((aRo u k A).2.1 102 2 = 4294967294 → x = (aRo u k A).1) ∧ KB 0 0 0 0 0 0 0 0 B B2 := by
  obtain ⟨i1, i2, i3, i4, i5, i6, i7⟩ := id hI
  have hp4 := hI.pl
  obtain ⟨x, B1, g1, g2, g3, g4, g5, g6⟩ := m161k (z := z) (lo := 0) (hi := 23) hL hu hI hR (by omega)
  have s3 := (hR.2.2.2.2.2.1 hn).2.2.1
  by_cases hE : (aRb 0 23 A).2.1 102 2 = 4294967294
  · obtain ⟨e1, e2, e3, e4, e5, e6⟩ := aRb_nf hE hp4
    have gx := g4 hE
    obtain ⟨r1, r2, r3, r4, r5, r6, r7⟩ := id g2
    obtain ⟨t1, t2, t3, t4, t5, t6⟩ := r6 hE
    have a2 : (aRb 0 23 A).2.1 (u + 2) 4 = A.1 (u + 2) 4 := aRb_ne _ _ _ (by omega)
    have a3 : ∀ o, (aRb 0 23 A).2.1 (u + 3) o = A.1 (u + 3) o := fun o => aRb_ne _ _ _ (by omega)
    have a5 : (aRb 0 23 A).2.1 102 5 = A.1 102 5 := aRb_ne _ _ _ (by omega)
    rw [e3] at gx
    subst gx
    rw [a2] at t4 t5
    rw [a5] at t6
    have a4 : (aRb 0 23 A).2.1 102 4 = A.1 102 4 + 1 := by rw [e6, xsI_eq]
    rw [a4] at t3
    have hb := i2 _ e2
    have b54 : B1.1 189 54 ≤ 1 := by omega
    have hbad := m160b (z := z) (B := B1) (p := A.1 102 4) (c := 1) hL t1
    have bad38 : (xsI (xsI B1 189 38 1) 189 37 (A.1 102 4)).1 189 38 = 1 := by rw [xsI_ne (by omega), xsI_eq]
    have bad53 : (xsI (xsI B1 189 38 1) 189 37 (A.1 102 4)).1 189 53 = A.1 (u + 2) 4 := by rw [xsI_ne (by omega), xsI_ne (by omega)]; exact t4
    have badR : ∀ D : xQ, (∀ a j, (a ≠ 102 ∨ (j ≠ 2 ∧ j ≠ 4)) → D.1 a j = A.1 a j) → D.1 102 2 = A.1 102 4 → RR u D (xsI (xsI B1 189 38 1) 189 37 (A.1 102 4)) := fun D hD hD2 => g2.mk' hu (fun a j q => by rw [hD a j q, aRb_ne _ _ _ q]) (fun a j q => by rw [xsI_ne (by omega), xsI_ne (by omega)]) (by omega) (by rw [xsI_ne (by omega), xsI_ne (by omega)]; exact r4) (fun q => by omega) (fun _ => ⟨by omega, by rw [xsI_eq, hD2]⟩)
    have badK : KB 0 0 0 0 0 0 0 0 B (xsI (xsI B1 189 38 1) 189 37 (A.1 102 4)) := by
      refine g6.trans ⟨fun a j q _ _ _ _ _ => by rw [xsI_ne (by omega), xsI_ne (by omega)], fun _ _ _ => rfl, fun j q1 q2 q3 q4 => by rw [xsI_ne (by omega), xsI_ne (by omega)], ?_⟩
      rw [bad38, t1]
      omega
    by_cases hm : A.1 100 (A.1 102 4) ≤ min (A.1 (u + 2) 4) (A.1 102 5 - 1)
    · have eR : aRb 0 (min (A.1 (u + 2) 4) (A.1 102 5 - 1)) A = (A.1 100 (A.1 102 4), xsI A 102 4 (A.1 102 4 + 1)) := by
        unfold aRb
        rw [if_pos hn, if_pos ⟨e2, by omega, hm⟩]
      have eN : (xsI A 102 4 (A.1 102 4 + 1)).1 102 2 = 4294967294 := by rw [xsI_ne (by omega)]; exact hn
      unfold aRo
      rw [eR, if_pos eN]
      by_cases hc : A.1 100 (A.1 102 4) = A.1 (u + 2) 4
      · rw [if_pos hc]
        refine ⟨A.1 100 (A.1 102 4), xsI (xsI B1 225 (A.1 100 (A.1 102 4)) k) 189 53 (A.1 (u + 2) 4 + 1), ?_, ?_, by omega, fun _ => rfl, ?_⟩
        · have x1 : (xsI B1 225 (A.1 100 (A.1 102 4)) k).1 189 53 = A.1 (u + 2) 4 := by rw [xsI_ne (by omega)]; exact t4
          refine xF_eq (xF_p (Nat.le_of_ble_eq_true rfl) ?_)
          refine xp_aload_n rfl rfl ?_
          refine xp_gfi rfl rfl (by decide) (by decide) (by first | assumption | exact hL.t rfl) ?_
          rw [s3]
          refine xp_istore_n rfl (by decide) ?_
          refine xp_aload_n rfl rfl ?_
          refine xp_iconst (n := 0) rfl (by decide) ?_
          refine xp_bipush (n := 23) rfl (by decide) ?_
          refine xp_iconst (n := 1) rfl (by decide) ?_
          refine xp_iv rfl rfl (Nat.le_of_ble_eq_true rfl) (by decide) (by decide) (by decide) (Nat.le_of_ble_eq_true rfl) rfl (xrcv1 (by decide) (by first | assumption | exact hL.t rfl)) (g1) rfl ?_
          refine xp_istore_n rfl (by decide) ?_
          refine xp_aload_n rfl rfl ?_
          refine xp_gfi rfl rfl (by decide) (by decide) (by first | assumption | exact hL.t rfl) ?_
          rw [t1]
          refine xp_ifle 23 rfl (by decide) (by omega) (fun h18 => ?_) (fun h18 => ?_)
          · skip
            refine xp_iload_n rfl rfl ?_
            refine xp_aload_n rfl rfl ?_
            refine xp_gfi rfl rfl (by decide) (by decide) (by first | assumption | exact hL.t rfl) ?_
            rw [t4]
            refine xp_icgt 64 rfl (by decide) (by omega) (by omega) (fun h28 => ?_) (fun h28 => ?_)
            · exfalso; omega
            · skip
              refine xp_iload_n rfl rfl ?_
              refine xp_aload_n rfl rfl ?_
              refine xp_gfi rfl rfl (by decide) (by decide) (by first | assumption | exact hL.t rfl) ?_
              rw [t4]
              refine xp_icge 49 rfl (by decide) (by omega) (by omega) (fun h36 => ?_) (fun h36 => ?_)
              · skip
                refine xp_aload_n rfl rfl ?_
                refine xp_gfi rfl rfl (by decide) (by decide) (by first | assumption | exact hL.t rfl) ?_
                refine xp_ifeq 70 rfl (by decide) (by omega) (fun h53 => ?_) (fun h53 => ?_)
                · skip
                  refine xp_iload_n rfl rfl ?_
                  refine xp_aload_n rfl rfl ?_
                  refine xp_gfi rfl rfl (by decide) (by decide) (by first | assumption | exact hL.t rfl) ?_
                  rw [t4]
                  refine xp_icne 102 rfl (by decide) (by omega) (by omega) (fun h75 => ?_) (fun h75 => ?_)
                  · exfalso; omega
                  · skip
                    refine xp_aload_n rfl rfl ?_
                    refine xp_gfi rfl rfl (by decide) (by decide) (by first | assumption | exact hL.t rfl) ?_
                    rw [t1]
                    refine xp_ifne 102 rfl (by decide) (by omega) (fun h82 => ?_) (fun h82 => ?_)
                    · exfalso; omega
                    · skip
                      refine xp_aload_n rfl rfl ?_
                      refine xp_gfa rfl rfl (by decide) (by decide) (by first | assumption | exact hL.t rfl) (by first | assumption | exact hL.r rfl | exact hL.2.2.2.2.2) ?_
                      refine xp_iload_n rfl rfl ?_
                      refine xp_iload_n rfl rfl ?_
                      refine xp_iast rfl (by first | assumption | exact hL.t rfl) (by omega) (by omega) ?_
                      refine xp_aload_n rfl rfl ?_
                      refine xp_dup rfl rfl ?_
                      refine xp_gfi rfl rfl (by decide) (by decide) (by first | assumption | exact hL.t rfl) ?_
                      rw [x1]
                      refine xp_iconst (n := 1) rfl (by decide) ?_
                      refine xp_iadd rfl ?_
                      refine xp_pfi rfl rfl (by decide) (by decide) (by decide) (by first | assumption | exact hL.t rfl) ?_
                      refine xp_iload_n rfl rfl ?_
                      refine xp_ireturn rfl (by decide) (by decide) (by decide) ?_
                      rfl
                · skip
                  refine xp_iload_n rfl rfl ?_
                  refine xp_aload_n rfl rfl ?_
                  refine xp_gfi rfl rfl (by decide) (by decide) (by first | assumption | exact hL.t rfl) ?_
                  refine xp_iclt 70 rfl (by decide) (by omega) (by omega) (fun h61 => ?_) (fun h61 => ?_)
                  · skip
                    refine xp_iload_n rfl rfl ?_
                    refine xp_aload_n rfl rfl ?_
                    refine xp_gfi rfl rfl (by decide) (by decide) (by first | assumption | exact hL.t rfl) ?_
                    rw [t4]
                    refine xp_icne 102 rfl (by decide) (by omega) (by omega) (fun h75 => ?_) (fun h75 => ?_)
                    · exfalso; omega
                    · skip
                      refine xp_aload_n rfl rfl ?_
                      refine xp_gfi rfl rfl (by decide) (by decide) (by first | assumption | exact hL.t rfl) ?_
                      rw [t1]
                      refine xp_ifne 102 rfl (by decide) (by omega) (fun h82 => ?_) (fun h82 => ?_)
                      · exfalso; omega
                      · skip
                        refine xp_aload_n rfl rfl ?_
                        refine xp_gfa rfl rfl (by decide) (by decide) (by first | assumption | exact hL.t rfl) (by first | assumption | exact hL.r rfl | exact hL.2.2.2.2.2) ?_
                        refine xp_iload_n rfl rfl ?_
                        refine xp_iload_n rfl rfl ?_
                        refine xp_iast rfl (by first | assumption | exact hL.t rfl) (by omega) (by omega) ?_
                        refine xp_aload_n rfl rfl ?_
                        refine xp_dup rfl rfl ?_
                        refine xp_gfi rfl rfl (by decide) (by decide) (by first | assumption | exact hL.t rfl) ?_
                        rw [x1]
                        refine xp_iconst (n := 1) rfl (by decide) ?_
                        refine xp_iadd rfl ?_
                        refine xp_pfi rfl rfl (by decide) (by decide) (by decide) (by first | assumption | exact hL.t rfl) ?_
                        refine xp_iload_n rfl rfl ?_
                        refine xp_ireturn rfl (by decide) (by decide) (by decide) ?_
                        rfl
                  · exfalso; omega
              · exfalso; omega
          · exfalso; omega
        · have ea : ∀ a j, (a ≠ u + 2 ∨ j ≠ 4) → (a ≠ u + 3 ∨ j ≠ A.1 (u + 2) 4) → (xsI (xsI (xsI A 102 4 (A.1 102 4 + 1)) (u + 3) (A.1 100 (A.1 102 4)) k) (u + 2) 4 (A.1 (u + 2) 4 + 1)).1 a j = (aRb 0 23 A).2.1 a j := fun a j q1 q2 => by rw [xsI_ne q1, xsI_ne (by omega), e6]
          have eb : ∀ a j, (a ≠ 225 ∨ j ≠ A.1 (u + 2) 4) → (a ≠ 189 ∨ j ≠ 53) → (xsI (xsI B1 225 (A.1 100 (A.1 102 4)) k) 189 53 (A.1 (u + 2) 4 + 1)).1 a j = B1.1 a j := fun a j q1 q2 => by rw [xsI_ne q2, xsI_ne (by omega)]
          refine ⟨by rw [ea 99 1 (by omega) (by omega), eb 189 35 (by omega) (by omega)]; exact r1, fun i hi => ?_, by rw [eb 189 38 (by omega) (by omega)]; exact r3, by rw [eb 189 39 (by omega) (by omega)]; exact r4, fun o ho => ?_, fun _ => ?_, fun q => absurd (by rw [ea 102 2 (by omega) (by omega)]; exact hE) q⟩
          · rw [ea 99 1 (by omega) (by omega)] at hi
            rw [ea 100 i (by omega) (by omega), eb 214 i (by omega) (by omega)]
            exact r2 i hi
          · refine ⟨?_, by rw [eb 227 o (by omega) (by omega)]; exact (r5 o ho).2⟩
            by_cases q : o = A.1 100 (A.1 102 4)
            · rw [xsI_ne (by omega), q, xsI_eq]; omega
            · rw [eb 225 o (by omega) (by omega)]; exact (r5 o ho).1
          · rw [eb 189 38 (by omega) (by omega), eb 189 37 (by omega) (by omega), eb 189 39 (by omega) (by omega), eb 189 54 (by omega) (by omega), eb 189 40 (by omega) (by omega), ea 102 4 (by omega) (by omega), ea 102 5 (by omega) (by omega), xsI_eq, xsI_eq, a4, a5]
            refine ⟨t1, t2, t3, rfl, fun o ho => ?_, t6⟩
            by_cases q : o = A.1 100 (A.1 102 4)
            · rw [xsI_ne (by omega), q, xsI_eq, xsI_ne (by omega), xsI_eq]
            · rw [eb 225 o (by omega) (by omega), ea (u + 3) o (by omega) (by omega)]; exact t5 o (by omega)
        · exact g6.trans ⟨fun a j q1 q2 _ _ _ _ => by rw [xsI_ne (by omega), xsI_ne (by omega)], fun _ _ _ => rfl, fun j q1 q2 q3 q4 => by rw [xsI_ne (by omega), xsI_ne (by omega)], by rw [xsI_ne (by omega), xsI_ne (by omega)]⟩
      · rw [if_neg hc]
        have t5b := t5 _ (show A.1 100 (A.1 102 4) < A.1 (u + 2) 4 by omega)
        rw [a3] at t5b
        have i7b := (i7 (A.1 100 (A.1 102 4)) (by omega)).1 (by omega)
        by_cases hq : A.1 (u + 3) (A.1 100 (A.1 102 4)) = k
        · rw [if_pos hq]
          rw [hq] at t5b
          refine ⟨A.1 100 (A.1 102 4), B1, ?_, by rw [← e6]; exact g2, by omega, fun _ => rfl, g6⟩
          refine xF_eq (xF_p (Nat.le_of_ble_eq_true rfl) ?_)
          refine xp_aload_n rfl rfl ?_
          refine xp_gfi rfl rfl (by decide) (by decide) (by first | assumption | exact hL.t rfl) ?_
          rw [s3]
          refine xp_istore_n rfl (by decide) ?_
          refine xp_aload_n rfl rfl ?_
          refine xp_iconst (n := 0) rfl (by decide) ?_
          refine xp_bipush (n := 23) rfl (by decide) ?_
          refine xp_iconst (n := 1) rfl (by decide) ?_
          refine xp_iv rfl rfl (Nat.le_of_ble_eq_true rfl) (by decide) (by decide) (by decide) (Nat.le_of_ble_eq_true rfl) rfl (xrcv1 (by decide) (by first | assumption | exact hL.t rfl)) (g1) rfl ?_
          refine xp_istore_n rfl (by decide) ?_
          refine xp_aload_n rfl rfl ?_
          refine xp_gfi rfl rfl (by decide) (by decide) (by first | assumption | exact hL.t rfl) ?_
          rw [t1]
          refine xp_ifle 23 rfl (by decide) (by omega) (fun h18 => ?_) (fun h18 => ?_)
          · skip
            refine xp_iload_n rfl rfl ?_
            refine xp_aload_n rfl rfl ?_
            refine xp_gfi rfl rfl (by decide) (by decide) (by first | assumption | exact hL.t rfl) ?_
            rw [t4]
            refine xp_icgt 64 rfl (by decide) (by omega) (by omega) (fun h28 => ?_) (fun h28 => ?_)
            · exfalso; omega
            · skip
              refine xp_iload_n rfl rfl ?_
              refine xp_aload_n rfl rfl ?_
              refine xp_gfi rfl rfl (by decide) (by decide) (by first | assumption | exact hL.t rfl) ?_
              rw [t4]
              refine xp_icge 49 rfl (by decide) (by omega) (by omega) (fun h36 => ?_) (fun h36 => ?_)
              · exfalso; omega
              · skip
                refine xp_aload_n rfl rfl ?_
                refine xp_gfa rfl rfl (by decide) (by decide) (by first | assumption | exact hL.t rfl) (by first | assumption | exact hL.r rfl | exact hL.2.2.2.2.2) ?_
                refine xp_iload_n rfl rfl ?_
                refine xp_iald rfl (by first | assumption | exact hL.t rfl) (by omega) (by omega) ?_
                refine xp_iload_n rfl rfl ?_
                rw [t5b]
                refine xp_icne 64 rfl (by decide) (by omega) (by omega) (fun h46 => ?_) (fun h46 => ?_)
                · exfalso; omega
                · skip
                  refine xp_aload_n rfl rfl ?_
                  refine xp_gfi rfl rfl (by decide) (by decide) (by first | assumption | exact hL.t rfl) ?_
                  refine xp_ifeq 70 rfl (by decide) (by omega) (fun h53 => ?_) (fun h53 => ?_)
                  · skip
                    refine xp_iload_n rfl rfl ?_
                    refine xp_aload_n rfl rfl ?_
                    refine xp_gfi rfl rfl (by decide) (by decide) (by first | assumption | exact hL.t rfl) ?_
                    rw [t4]
                    refine xp_icne 102 rfl (by decide) (by omega) (by omega) (fun h75 => ?_) (fun h75 => ?_)
                    · skip
                      refine xp_iload_n rfl rfl ?_
                      refine xp_ireturn rfl (by decide) (by decide) (by decide) ?_
                      rfl
                    · exfalso; omega
                  · skip
                    refine xp_iload_n rfl rfl ?_
                    refine xp_aload_n rfl rfl ?_
                    refine xp_gfi rfl rfl (by decide) (by decide) (by first | assumption | exact hL.t rfl) ?_
                    refine xp_iclt 70 rfl (by decide) (by omega) (by omega) (fun h61 => ?_) (fun h61 => ?_)
                    · skip
                      refine xp_iload_n rfl rfl ?_
                      refine xp_aload_n rfl rfl ?_
                      refine xp_gfi rfl rfl (by decide) (by decide) (by first | assumption | exact hL.t rfl) ?_
                      rw [t4]
                      refine xp_icne 102 rfl (by decide) (by omega) (by omega) (fun h75 => ?_) (fun h75 => ?_)
                      · skip
                        refine xp_iload_n rfl rfl ?_
                        refine xp_ireturn rfl (by decide) (by decide) (by decide) ?_
                        rfl
                      · exfalso; omega
                    · exfalso; omega
          · exfalso; omega
        · rw [if_neg hq]
          have er : aRef (xsI A 102 4 (A.1 102 4 + 1)) = xsI (xsI A 102 4 (A.1 102 4 + 1)) 102 2 (A.1 102 4) := by
            unfold aRef
            rw [if_pos eN, xsI_eq]
            rfl
          rw [er]
          refine ⟨A.1 100 (A.1 102 4), xsI (xsI B1 189 38 1) 189 37 (A.1 102 4), ?_, badR _ (fun a j q => by rw [xsI_ne (by omega), xsI_ne (by omega)]) xsI_eq, by omega, fun _ => rfl, badK⟩
          refine xF_eq (xF_p (Nat.le_of_ble_eq_true rfl) ?_)
          refine xp_aload_n rfl rfl ?_
          refine xp_gfi rfl rfl (by decide) (by decide) (by first | assumption | exact hL.t rfl) ?_
          rw [s3]
          refine xp_istore_n rfl (by decide) ?_
          refine xp_aload_n rfl rfl ?_
          refine xp_iconst (n := 0) rfl (by decide) ?_
          refine xp_bipush (n := 23) rfl (by decide) ?_
          refine xp_iconst (n := 1) rfl (by decide) ?_
          refine xp_iv rfl rfl (Nat.le_of_ble_eq_true rfl) (by decide) (by decide) (by decide) (Nat.le_of_ble_eq_true rfl) rfl (xrcv1 (by decide) (by first | assumption | exact hL.t rfl)) (g1) rfl ?_
          refine xp_istore_n rfl (by decide) ?_
          refine xp_aload_n rfl rfl ?_
          refine xp_gfi rfl rfl (by decide) (by decide) (by first | assumption | exact hL.t rfl) ?_
          rw [t1]
          refine xp_ifle 23 rfl (by decide) (by omega) (fun h18 => ?_) (fun h18 => ?_)
          · skip
            refine xp_iload_n rfl rfl ?_
            refine xp_aload_n rfl rfl ?_
            refine xp_gfi rfl rfl (by decide) (by decide) (by first | assumption | exact hL.t rfl) ?_
            rw [t4]
            refine xp_icgt 64 rfl (by decide) (by omega) (by omega) (fun h28 => ?_) (fun h28 => ?_)
            · exfalso; omega
            · skip
              refine xp_iload_n rfl rfl ?_
              refine xp_aload_n rfl rfl ?_
              refine xp_gfi rfl rfl (by decide) (by decide) (by first | assumption | exact hL.t rfl) ?_
              rw [t4]
              refine xp_icge 49 rfl (by decide) (by omega) (by omega) (fun h36 => ?_) (fun h36 => ?_)
              · exfalso; omega
              · skip
                refine xp_aload_n rfl rfl ?_
                refine xp_gfa rfl rfl (by decide) (by decide) (by first | assumption | exact hL.t rfl) (by first | assumption | exact hL.r rfl | exact hL.2.2.2.2.2) ?_
                refine xp_iload_n rfl rfl ?_
                refine xp_iald rfl (by first | assumption | exact hL.t rfl) (by omega) (by omega) ?_
                refine xp_iload_n rfl rfl ?_
                rw [t5b]
                refine xp_icne 64 rfl (by decide) (by omega) (by omega) (fun h46 => ?_) (fun h46 => ?_)
                · skip
                  refine xp_aload_n rfl rfl ?_
                  refine xp_iload_n rfl rfl ?_
                  refine xp_iconst (n := 1) rfl (by decide) ?_
                  refine xp_iv rfl rfl (Nat.le_of_ble_eq_true rfl) (by decide) (by decide) (by decide) (Nat.le_of_ble_eq_true rfl) rfl (xrcv1 (by decide) (by first | assumption | exact hL.t rfl)) (hbad) rfl ?_
                  refine xp_iload_n rfl rfl ?_
                  refine xp_aload_n rfl rfl ?_
                  refine xp_gfi rfl rfl (by decide) (by decide) (by first | assumption | exact hL.t rfl) ?_
                  rw [bad53]
                  refine xp_icne 102 rfl (by decide) (by omega) (by omega) (fun h75 => ?_) (fun h75 => ?_)
                  · skip
                    refine xp_iload_n rfl rfl ?_
                    refine xp_ireturn rfl (by decide) (by decide) (by decide) ?_
                    rfl
                  · exfalso; omega
                · exfalso; omega
          · exfalso; omega
    · have eR : aRb 0 (min (A.1 (u + 2) 4) (A.1 102 5 - 1)) A = (0, xsI A 102 2 (A.1 102 4)) := by
        unfold aRb
        rw [if_pos hn, if_neg (by omega)]
      have eN : ¬ (xsI A 102 2 (A.1 102 4)).1 102 2 = 4294967294 := by rw [xsI_eq]; omega
      unfold aRo
      rw [eR, if_neg eN]
      refine ⟨A.1 100 (A.1 102 4), xsI (xsI B1 189 38 1) 189 37 (A.1 102 4), ?_, badR _ (fun a j q => by rw [xsI_ne (by omega)]) xsI_eq, by omega, fun q => absurd q eN, badK⟩
      have t5b : A.1 100 (A.1 102 4) < A.1 (u + 2) 4 → B1.1 225 (A.1 100 (A.1 102 4)) < 2 ^ 32 := fun q => (r5 _ (by omega)).1
      refine xF_eq (xF_p (Nat.le_of_ble_eq_true rfl) ?_)
      refine xp_aload_n rfl rfl ?_
      refine xp_gfi rfl rfl (by decide) (by decide) (by first | assumption | exact hL.t rfl) ?_
      rw [s3]
      refine xp_istore_n rfl (by decide) ?_
      refine xp_aload_n rfl rfl ?_
      refine xp_iconst (n := 0) rfl (by decide) ?_
      refine xp_bipush (n := 23) rfl (by decide) ?_
      refine xp_iconst (n := 1) rfl (by decide) ?_
      refine xp_iv rfl rfl (Nat.le_of_ble_eq_true rfl) (by decide) (by decide) (by decide) (Nat.le_of_ble_eq_true rfl) rfl (xrcv1 (by decide) (by first | assumption | exact hL.t rfl)) (g1) rfl ?_
      refine xp_istore_n rfl (by decide) ?_
      refine xp_aload_n rfl rfl ?_
      refine xp_gfi rfl rfl (by decide) (by decide) (by first | assumption | exact hL.t rfl) ?_
      rw [t1]
      refine xp_ifle 23 rfl (by decide) (by omega) (fun h18 => ?_) (fun h18 => ?_)
      · skip
        refine xp_iload_n rfl rfl ?_
        refine xp_aload_n rfl rfl ?_
        refine xp_gfi rfl rfl (by decide) (by decide) (by first | assumption | exact hL.t rfl) ?_
        rw [t4]
        refine xp_icgt 64 rfl (by decide) (by omega) (by omega) (fun h28 => ?_) (fun h28 => ?_)
        · skip
          refine xp_aload_n rfl rfl ?_
          refine xp_iload_n rfl rfl ?_
          refine xp_iconst (n := 1) rfl (by decide) ?_
          refine xp_iv rfl rfl (Nat.le_of_ble_eq_true rfl) (by decide) (by decide) (by decide) (Nat.le_of_ble_eq_true rfl) rfl (xrcv1 (by decide) (by first | assumption | exact hL.t rfl)) (hbad) rfl ?_
          refine xp_iload_n rfl rfl ?_
          refine xp_aload_n rfl rfl ?_
          refine xp_gfi rfl rfl (by decide) (by decide) (by first | assumption | exact hL.t rfl) ?_
          rw [bad53]
          refine xp_icne 102 rfl (by decide) (by omega) (by omega) (fun h75 => ?_) (fun h75 => ?_)
          · skip
            refine xp_iload_n rfl rfl ?_
            refine xp_ireturn rfl (by decide) (by decide) (by decide) ?_
            rfl
          · skip
            refine xp_aload_n rfl rfl ?_
            refine xp_gfi rfl rfl (by decide) (by decide) (by first | assumption | exact hL.t rfl) ?_
            rw [bad38]
            refine xp_ifne 102 rfl (by decide) (by omega) (fun h82 => ?_) (fun h82 => ?_)
            · skip
              refine xp_iload_n rfl rfl ?_
              refine xp_ireturn rfl (by decide) (by decide) (by decide) ?_
              rfl
            · exfalso; omega
        · skip
          refine xp_iload_n rfl rfl ?_
          refine xp_aload_n rfl rfl ?_
          refine xp_gfi rfl rfl (by decide) (by decide) (by first | assumption | exact hL.t rfl) ?_
          rw [t4]
          refine xp_icge 49 rfl (by decide) (by omega) (by omega) (fun h36 => ?_) (fun h36 => ?_)
          · skip
            refine xp_aload_n rfl rfl ?_
            refine xp_gfi rfl rfl (by decide) (by decide) (by first | assumption | exact hL.t rfl) ?_
            refine xp_ifeq 70 rfl (by decide) (by omega) (fun h53 => ?_) (fun h53 => ?_)
            · exfalso; omega
            · skip
              refine xp_iload_n rfl rfl ?_
              refine xp_aload_n rfl rfl ?_
              refine xp_gfi rfl rfl (by decide) (by decide) (by first | assumption | exact hL.t rfl) ?_
              refine xp_iclt 70 rfl (by decide) (by omega) (by omega) (fun h61 => ?_) (fun h61 => ?_)
              · exfalso; omega
              · skip
                refine xp_aload_n rfl rfl ?_
                refine xp_iload_n rfl rfl ?_
                refine xp_iconst (n := 1) rfl (by decide) ?_
                refine xp_iv rfl rfl (Nat.le_of_ble_eq_true rfl) (by decide) (by decide) (by decide) (Nat.le_of_ble_eq_true rfl) rfl (xrcv1 (by decide) (by first | assumption | exact hL.t rfl)) (hbad) rfl ?_
                refine xp_iload_n rfl rfl ?_
                refine xp_aload_n rfl rfl ?_
                refine xp_gfi rfl rfl (by decide) (by decide) (by first | assumption | exact hL.t rfl) ?_
                rw [bad53]
                refine xp_icne 102 rfl (by decide) (by omega) (by omega) (fun h75 => ?_) (fun h75 => ?_)
                · skip
                  refine xp_iload_n rfl rfl ?_
                  refine xp_ireturn rfl (by decide) (by decide) (by decide) ?_
                  rfl
                · skip
                  refine xp_aload_n rfl rfl ?_
                  refine xp_gfi rfl rfl (by decide) (by decide) (by first | assumption | exact hL.t rfl) ?_
                  rw [bad38]
                  refine xp_ifne 102 rfl (by decide) (by omega) (fun h82 => ?_) (fun h82 => ?_)
                  · skip
                    refine xp_iload_n rfl rfl ?_
                    refine xp_ireturn rfl (by decide) (by decide) (by decide) ?_
                    rfl
                  · exfalso; omega
          · skip
            refine xp_aload_n rfl rfl ?_
            refine xp_gfa rfl rfl (by decide) (by decide) (by first | assumption | exact hL.t rfl) (by first | assumption | exact hL.r rfl | exact hL.2.2.2.2.2) ?_
            refine xp_iload_n rfl rfl ?_
            refine xp_iald rfl (by first | assumption | exact hL.t rfl) (by omega) (by omega) ?_
            refine xp_iload_n rfl rfl ?_
            refine xp_icne 64 rfl (by decide) (by first | omega | exact t5b (by omega)) (by first | omega | exact t5b (by omega)) (fun h46 => ?_) (fun h46 => ?_)
            · skip
              refine xp_aload_n rfl rfl ?_
              refine xp_iload_n rfl rfl ?_
              refine xp_iconst (n := 1) rfl (by decide) ?_
              refine xp_iv rfl rfl (Nat.le_of_ble_eq_true rfl) (by decide) (by decide) (by decide) (Nat.le_of_ble_eq_true rfl) rfl (xrcv1 (by decide) (by first | assumption | exact hL.t rfl)) (hbad) rfl ?_
              refine xp_iload_n rfl rfl ?_
              refine xp_aload_n rfl rfl ?_
              refine xp_gfi rfl rfl (by decide) (by decide) (by first | assumption | exact hL.t rfl) ?_
              rw [bad53]
              refine xp_icne 102 rfl (by decide) (by omega) (by omega) (fun h75 => ?_) (fun h75 => ?_)
              · skip
                refine xp_iload_n rfl rfl ?_
                refine xp_ireturn rfl (by decide) (by decide) (by decide) ?_
                rfl
              · skip
                refine xp_aload_n rfl rfl ?_
                refine xp_gfi rfl rfl (by decide) (by decide) (by first | assumption | exact hL.t rfl) ?_
                rw [bad38]
                refine xp_ifne 102 rfl (by decide) (by omega) (fun h82 => ?_) (fun h82 => ?_)
                · skip
                  refine xp_iload_n rfl rfl ?_
                  refine xp_ireturn rfl (by decide) (by decide) (by decide) ?_
                  rfl
                · exfalso; omega
            · skip
              refine xp_aload_n rfl rfl ?_
              refine xp_gfi rfl rfl (by decide) (by decide) (by first | assumption | exact hL.t rfl) ?_
              refine xp_ifeq 70 rfl (by decide) (by omega) (fun h53 => ?_) (fun h53 => ?_)
              · exfalso; omega
              · skip
                refine xp_iload_n rfl rfl ?_
                refine xp_aload_n rfl rfl ?_
                refine xp_gfi rfl rfl (by decide) (by decide) (by first | assumption | exact hL.t rfl) ?_
                refine xp_iclt 70 rfl (by decide) (by omega) (by omega) (fun h61 => ?_) (fun h61 => ?_)
                · exfalso; omega
                · skip
                  refine xp_aload_n rfl rfl ?_
                  refine xp_iload_n rfl rfl ?_
                  refine xp_iconst (n := 1) rfl (by decide) ?_
                  refine xp_iv rfl rfl (Nat.le_of_ble_eq_true rfl) (by decide) (by decide) (by decide) (Nat.le_of_ble_eq_true rfl) rfl (xrcv1 (by decide) (by first | assumption | exact hL.t rfl)) (hbad) rfl ?_
                  refine xp_iload_n rfl rfl ?_
                  refine xp_aload_n rfl rfl ?_
                  refine xp_gfi rfl rfl (by decide) (by decide) (by first | assumption | exact hL.t rfl) ?_
                  rw [bad53]
                  refine xp_icne 102 rfl (by decide) (by omega) (by omega) (fun h75 => ?_) (fun h75 => ?_)
                  · skip
                    refine xp_iload_n rfl rfl ?_
                    refine xp_ireturn rfl (by decide) (by decide) (by decide) ?_
                    rfl
                  · skip
                    refine xp_aload_n rfl rfl ?_
                    refine xp_gfi rfl rfl (by decide) (by decide) (by first | assumption | exact hL.t rfl) ?_
                    rw [bad38]
                    refine xp_ifne 102 rfl (by decide) (by omega) (fun h82 => ?_) (fun h82 => ?_)
                    · skip
                      refine xp_iload_n rfl rfl ?_
                      refine xp_ireturn rfl (by decide) (by decide) (by decide) ?_
                      rfl
                    · exfalso; omega
      · exfalso; omega
  · obtain ⟨r1, r2, r3, r4, r5, r6, r7⟩ := id g2
    obtain ⟨t1, t2⟩ := r7 hE
    have eR : (aRb 0 (min (A.1 (u + 2) 4) (A.1 102 5 - 1)) A).2 = (aRb 0 23 A).2 := by
      unfold aRb at hE ⊢
      rw [if_pos hn] at hE
      rw [if_pos hn, if_pos hn]
      by_cases q : A.1 102 4 < A.1 99 1 ∧ 0 ≤ A.1 100 (A.1 102 4) ∧ A.1 100 (A.1 102 4) ≤ 23
      · rw [if_pos q] at hE
        exact absurd (by show (xsI A 102 4 _).1 102 2 = _; rw [xsI_ne (by omega)]; exact hn) hE
      · rw [if_neg q, if_neg (by omega)]
    have eo : aRo u k A = (0, (aRb 0 23 A).2) := by
      unfold aRo
      rw [eR, if_neg hE]
    rw [eo]
    refine ⟨0, B1, ?_, g2, by omega, fun _ => rfl, g6⟩
    refine xF_eq (xF_p (Nat.le_of_ble_eq_true rfl) ?_)
    refine xp_aload_n rfl rfl ?_
    refine xp_gfi rfl rfl (by decide) (by decide) (by first | assumption | exact hL.t rfl) ?_
    rw [s3]
    refine xp_istore_n rfl (by decide) ?_
    refine xp_aload_n rfl rfl ?_
    refine xp_iconst (n := 0) rfl (by decide) ?_
    refine xp_bipush (n := 23) rfl (by decide) ?_
    refine xp_iconst (n := 1) rfl (by decide) ?_
    refine xp_iv rfl rfl (Nat.le_of_ble_eq_true rfl) (by decide) (by decide) (by decide) (Nat.le_of_ble_eq_true rfl) rfl (xrcv1 (by decide) (by first | assumption | exact hL.t rfl)) (g1) rfl ?_
    refine xp_istore_n rfl (by decide) ?_
    refine xp_aload_n rfl rfl ?_
    refine xp_gfi rfl rfl (by decide) (by decide) (by first | assumption | exact hL.t rfl) ?_
    refine xp_ifle 23 rfl (by decide) (by omega) (fun h18 => ?_) (fun h18 => ?_)
    · exfalso; omega
    · skip
      refine xp_iconst (n := 0) rfl (by decide) ?_
      refine xp_ireturn rfl (by decide) (by decide) (by decide) ?_
      rfl
theorem l163 {z : Nat} {T : Nat → Option xT} {R : Nat → Nat → Option Nat} {w u c k n : Nat} {Q : xR → Prop} (hL : xLay T R w) (hu : u = 12 ∨ u = 103) (hkn : (k = 1 ∧ n = 4) ∨ (k = 2 ∧ n = 8)) : ∀ (m i : Nat) (v va : Int64) (A B : xQ), i + m = n → CI u A → RR u A B → (A.1 102 2 = 4294967294 → v = va) → (∀ v2 B2, RR u (aRn m i va A).2 B2 → KB 0 0 0 0 0 0 0 0 B B2 → ((aRn m i va A).2.1 102 2 = 4294967294 → v2 = (aRn m i va A).1) → xP 163 64 [(0, .ref 189), (1, .int (nI c)), (2, .int (nI k)), (3, .long v2)] [] 0 0 (xm z T R B2) Q) → xP 163 23 [(0, .ref 189), (1, .int (nI c)), (2, .int (nI k)), (3, .long v), (5, .int (nI i))] [] 0 0 (xm z T R B) Q := by
  intro m
  induction m with
  | zero =>
    intro i v va A B hi hI hR hv hQ
    have hQ2 := hQ v B hR (KB.refl B) hv
    refine xp_iload rfl rfl ?_
    refine xp_iload_n rfl rfl ?_
    refine xp_iconst (n := 1) rfl (by decide) ?_
    refine xp_icne 34 rfl (by decide) (by omega) (by omega) (fun h27 => ?_) (fun h27 => ?_)
    · skip
      have hn : n = 8 := by omega
      refine xp_bipush (n := 8) rfl (by decide) ?_
      refine xp_icge 64 rfl (by decide) (by omega) (by omega) (fun h36 => ?_) (fun h36 => ?_)
      · skip
        refine xp_weak [(0, .ref 189), (1, .int (nI c)), (2, .int (nI k)), (3, .long v)] (xle_cons rfl (xle_cons rfl (xle_cons rfl (xle_cons rfl (xle_nil _))))) (by simp [xnd]) ?_
        exact hQ2
      · exfalso; omega
    · skip
      have hn : n = 4 := by omega
      refine xp_iconst (n := 4) rfl (by decide) ?_
      refine xp_goto 36 rfl (by decide) ?_
      refine xp_icge 64 rfl (by decide) (by omega) (by omega) (fun h36 => ?_) (fun h36 => ?_)
      · skip
        refine xp_weak [(0, .ref 189), (1, .int (nI c)), (2, .int (nI k)), (3, .long v)] (xle_cons rfl (xle_cons rfl (xle_cons rfl (xle_cons rfl (xle_nil _))))) (by simp [xnd]) ?_
        exact hQ2
      · exfalso; omega
  | succ m ih =>
    intro i v va A B hi hI hR hv hQ
    obtain ⟨x, B1, g1, g2, g3, g4, g5, g6⟩ := m161k (z := z) (lo := 0) (hi := 255) hL hu hI hR (by omega)
    have hih := ih (i + 1) (v ||| ((nI x).toInt64 <<< ((nI (8 * i)).toInt64 &&& 63))) (va ||| ((nI (aRb 0 255 A).1).toInt64 <<< ((nI (8 * i)).toInt64 &&& 63))) (aRb 0 255 A).2 B1 (by omega) (hI.rb hu 0 255) g2 (fun q => by rw [g4 q, hv (aRb_nf q hI.pl).1]) (fun v2 B2 h1 h2 h3 => hQ v2 B2 h1 (g6.trans h2) h3)
    refine xp_iload rfl rfl ?_
    refine xp_iload_n rfl rfl ?_
    refine xp_iconst (n := 1) rfl (by decide) ?_
    refine xp_icne 34 rfl (by decide) (by omega) (by omega) (fun h27 => ?_) (fun h27 => ?_)
    · skip
      have hn : n = 8 := by omega
      refine xp_bipush (n := 8) rfl (by decide) ?_
      refine xp_icge 64 rfl (by decide) (by omega) (by omega) (fun h36 => ?_) (fun h36 => ?_)
      · exfalso; omega
      · skip
        refine xp_lload_n rfl rfl ?_
        refine xp_aload_n rfl rfl ?_
        refine xp_iconst (n := 0) rfl (by decide) ?_
        refine xp_sipush (n := 255) rfl (by decide) ?_
        refine xp_iconst (n := 1) rfl (by decide) ?_
        refine xp_iv rfl rfl (Nat.le_of_ble_eq_true rfl) (by decide) (by decide) (by decide) (Nat.le_of_ble_eq_true rfl) rfl (xrcv1 (by decide) (by first | assumption | exact hL.t rfl)) (g1) rfl ?_
        refine xp_i2l rfl ?_
        refine xp_bipush (n := 8) rfl (by decide) ?_
        refine xp_iload rfl rfl ?_
        refine xp_imul rfl ?_
        refine xp_lshl rfl ?_
        refine xp_lor rfl ?_
        refine xp_lstore_n rfl (by decide) ?_
        refine xp_iinc rfl rfl (by decide) (nI_inc _) ?_
        refine xp_goto 23 rfl (by decide) ?_
        refine xp_weak [(0, .ref 189), (1, .int (nI c)), (2, .int (nI k)), (3, .long (v ||| ((nI x).toInt64 <<< ((nI (8 * i)).toInt64 &&& 63)))), (5, .int (nI (i + 1)))] (xle_cons rfl (xle_cons rfl (xle_cons rfl (xle_cons rfl (xle_cons rfl (xle_nil _)))))) (by simp [xnd]) ?_
        exact hih
    · skip
      have hn : n = 4 := by omega
      refine xp_iconst (n := 4) rfl (by decide) ?_
      refine xp_goto 36 rfl (by decide) ?_
      refine xp_icge 64 rfl (by decide) (by omega) (by omega) (fun h36 => ?_) (fun h36 => ?_)
      · exfalso; omega
      · skip
        refine xp_lload_n rfl rfl ?_
        refine xp_aload_n rfl rfl ?_
        refine xp_iconst (n := 0) rfl (by decide) ?_
        refine xp_sipush (n := 255) rfl (by decide) ?_
        refine xp_iconst (n := 1) rfl (by decide) ?_
        refine xp_iv rfl rfl (Nat.le_of_ble_eq_true rfl) (by decide) (by decide) (by decide) (Nat.le_of_ble_eq_true rfl) rfl (xrcv1 (by decide) (by first | assumption | exact hL.t rfl)) (g1) rfl ?_
        refine xp_i2l rfl ?_
        refine xp_bipush (n := 8) rfl (by decide) ?_
        refine xp_iload rfl rfl ?_
        refine xp_imul rfl ?_
        refine xp_lshl rfl ?_
        refine xp_lor rfl ?_
        refine xp_lstore_n rfl (by decide) ?_
        refine xp_iinc rfl rfl (by decide) (nI_inc _) ?_
        refine xp_goto 23 rfl (by decide) ?_
        refine xp_weak [(0, .ref 189), (1, .int (nI c)), (2, .int (nI k)), (3, .long (v ||| ((nI x).toInt64 <<< ((nI (8 * i)).toInt64 &&& 63)))), (5, .int (nI (i + 1)))] (xle_cons rfl (xle_cons rfl (xle_cons rfl (xle_cons rfl (xle_cons rfl (xle_nil _)))))) (by simp [xnd]) ?_
        exact hih
theorem m163 {z : Nat} {T : Nat → Option xT} {R : Nat → Nat → Option Nat} {A B : xQ} {w u c : Nat} (hL : xLay T R w) (hu : u = 12 ∨ u = 103) (hI : CI u A) (hl : 1 ≤ A.1 102 5) (hR : RR u A B) (hc : c < 240) : ∃ B2, xF 163 [.ref 189, .int (nI c)] (xm z T R B) (.inr none, xm z T R B2) ∧ RR u (aVal u A).2.2 B2 ∧ ((aVal u A).2.2.1 102 2 = 4294967294 → B2.1 224 c = (aVal u A).1 ∧ B2.2 228 c = (aVal u A).2.1) ∧ KB c (c + 1) 0 0 0 0 0 0 B B2 := by
  obtain ⟨x, B1, g1, g2, g3, g4, g5, g6⟩ := m161k (z := z) (lo := 0) (hi := 4) hL hu hI hR (by omega)
  have hI1 := hI.rb hu 0 4
  have hl1 : 1 ≤ (aRb 0 4 A).2.1 102 5 := by rw [aRb_ne _ _ _ (by omega)]; exact hl
  have hk4 := (aRb_in (lo := 0) (hi := 4) (A := A) (by omega)).2
  have st : ∀ (D : xQ) (D2 : xQ) (k : Nat) (v : Int64), RR u D D2 → KB 0 0 0 0 0 0 0 0 B D2 → RR u D (xsJ (xsI D2 224 c k) 228 c v) ∧ ((xsJ (xsI D2 224 c k) 228 c v).1 224 c = k ∧ (xsJ (xsI D2 224 c k) 228 c v).2 228 c = v) ∧ KB c (c + 1) 0 0 0 0 0 0 B (xsJ (xsI D2 224 c k) 228 c v) := fun D D2 k v hD hK => by
    refine ⟨hD.oth (fun _ _ _ => rfl) (fun a j q => by show (xsI D2 224 c k).1 a j = _; exact xsI_ne (by omega)) (fun o ho => by show (xsI D2 224 c k).1 227 o < _; rw [xsI_ne (by omega)]; exact (hD.2.2.2.2.1 o ho).2), ⟨by show (xsI D2 224 c k).1 224 c = k; exact xsI_eq, xsJ_eq⟩, hK.up.trans ⟨fun a j _ _ q _ _ _ => by show (xsI D2 224 c k).1 a j = _; exact xsI_ne (by omega), fun a j q => xsJ_ne (by omega), fun j _ _ _ _ => by show (xsI D2 224 c k).1 189 j = _; exact xsI_ne (by omega), ?_⟩⟩
    show (xsI D2 224 c k).1 189 38 = 2 ↔ _
    rw [xsI_ne (by omega)]
  refine xF_x (xF_p (Nat.le_of_ble_eq_true rfl) ?_)
  by_cases hE : (aRb 0 4 A).2.1 102 2 = 4294967294
  · have gx := g4 hE
    subst gx
    have t1 := (g2.2.2.2.2.2.1 hE).1
    have h5 : (aRb 0 4 A).1 = 0 ∨ (aRb 0 4 A).1 = 1 ∨ (aRb 0 4 A).1 = 2 ∨ (aRb 0 4 A).1 = 3 ∨ (aRb 0 4 A).1 = 4 := by omega
    unfold aVal
    generalize aRb 0 4 A = r at *
    rcases h5 with hk | hk | hk | hk | hk
    · rw [if_neg (by omega), if_neg (by omega), if_pos hk]
      obtain ⟨z1, z2, z3⟩ := st r.2 B1 0 0 g2 g6
      rw [hk] at g1
      refine xp_aload_n rfl rfl ?_
      refine xp_iconst (n := 0) rfl (by decide) ?_
      refine xp_iconst (n := 4) rfl (by decide) ?_
      refine xp_iconst (n := 1) rfl (by decide) ?_
      refine xp_iv rfl rfl (Nat.le_of_ble_eq_true rfl) (by decide) (by decide) (by decide) (Nat.le_of_ble_eq_true rfl) rfl (xrcv1 (by decide) (by first | assumption | exact hL.t rfl)) (g1) rfl ?_
      refine xp_istore_n rfl (by decide) ?_
      refine xp_lconst (v := 0) rfl rfl ?_
      refine xp_lstore_n rfl (by decide) ?_
      refine xp_iload_n rfl rfl ?_
      refine xp_iconst (n := 1) rfl (by decide) ?_
      refine xp_iceq 20 rfl (by decide) (by omega) (by omega) (fun h12 => ?_) (fun h12 => ?_)
      · exfalso; omega
      · skip
        refine xp_iload_n rfl rfl ?_
        refine xp_iconst (n := 2) rfl (by decide) ?_
        refine xp_icne 64 rfl (by decide) (by omega) (by omega) (fun h17 => ?_) (fun h17 => ?_)
        · skip
          refine xp_iload_n rfl rfl ?_
          refine xp_iconst (n := 2) rfl (by decide) ?_
          refine xp_icle 83 rfl (by decide) (by omega) (by omega) (fun h66 => ?_) (fun h66 => ?_)
          · skip
            refine xp_aload_n rfl rfl ?_
            refine xp_gfa rfl rfl (by decide) (by decide) (by first | assumption | exact hL.t rfl) (by first | assumption | exact hL.r rfl | exact hL.2.2.2.2.2) ?_
            refine xp_iload_n rfl rfl ?_
            refine xp_iload_n rfl rfl ?_
            refine xp_iast rfl (by first | assumption | exact hL.t rfl) (by omega) (by omega) ?_
            refine xp_aload_n rfl rfl ?_
            refine xp_gfa rfl rfl (by decide) (by decide) (by first | assumption | exact hL.t rfl) (by first | assumption | exact hL.r rfl | exact hL.2.2.2.2.2) ?_
            refine xp_iload_n rfl rfl ?_
            refine xp_iload_n rfl rfl ?_
            refine xp_iconst (n := 1) rfl (by decide) ?_
            refine xp_icne 106 rfl (by decide) (by omega) (by omega) (fun h97 => ?_) (fun h97 => ?_)
            · skip
              refine xp_lload_n rfl rfl ?_
              refine xp_last rfl (by first | assumption | exact hL.t rfl) (by omega) (by omega) ?_
              refine xp_return rfl (by decide) (by decide) (by decide) ?_
              exact ⟨_, rfl, z1, fun _ => z2, z3⟩
            · exfalso; omega
          · exfalso; omega
        · exfalso; omega
    · rw [if_pos hk]
      rw [hk] at g1
      refine xp_aload_n rfl rfl ?_
      refine xp_iconst (n := 0) rfl (by decide) ?_
      refine xp_iconst (n := 4) rfl (by decide) ?_
      refine xp_iconst (n := 1) rfl (by decide) ?_
      refine xp_iv rfl rfl (Nat.le_of_ble_eq_true rfl) (by decide) (by decide) (by decide) (Nat.le_of_ble_eq_true rfl) rfl (xrcv1 (by decide) (by first | assumption | exact hL.t rfl)) (g1) rfl ?_
      refine xp_istore_n rfl (by decide) ?_
      refine xp_lconst (v := 0) rfl rfl ?_
      refine xp_lstore_n rfl (by decide) ?_
      refine xp_iload_n rfl rfl ?_
      refine xp_iconst (n := 1) rfl (by decide) ?_
      refine xp_iceq 20 rfl (by decide) (by omega) (by omega) (fun h12 => ?_) (fun h12 => ?_)
      · skip
        refine xp_iconst (n := 0) rfl (by decide) ?_
        refine xp_istore rfl (by decide) ?_
        refine xp_weak [(0, .ref 189), (1, .int (nI c)), (2, .int (nI 1)), (3, .long 0), (5, .int (nI 0))] (xle_cons rfl (xle_cons rfl (xle_cons rfl (xle_cons rfl (xle_cons rfl (xle_nil _)))))) (by simp [xnd]) ?_
        refine l163 (k := 1) (n := 4) hL hu (by omega) 4 0 0 0 r.2 B1 (by omega) hI1 g2 (fun _ => rfl) (fun v2 B2 y1 y2 y3 => ?_)
        obtain ⟨z1, z2, z3⟩ := st (aRn 4 0 0 r.2).2 B2 1 v2.toInt32.toInt64 y1 (g6.trans y2)
        refine xp_iload_n rfl rfl ?_
        refine xp_iconst (n := 2) rfl (by decide) ?_
        refine xp_icle 83 rfl (by decide) (by omega) (by omega) (fun h66 => ?_) (fun h66 => ?_)
        · skip
          refine xp_aload_n rfl rfl ?_
          refine xp_gfa rfl rfl (by decide) (by decide) (by first | assumption | exact hL.t rfl) (by first | assumption | exact hL.r rfl | exact hL.2.2.2.2.2) ?_
          refine xp_iload_n rfl rfl ?_
          refine xp_iload_n rfl rfl ?_
          refine xp_iast rfl (by first | assumption | exact hL.t rfl) (by omega) (by omega) ?_
          refine xp_aload_n rfl rfl ?_
          refine xp_gfa rfl rfl (by decide) (by decide) (by first | assumption | exact hL.t rfl) (by first | assumption | exact hL.r rfl | exact hL.2.2.2.2.2) ?_
          refine xp_iload_n rfl rfl ?_
          refine xp_iload_n rfl rfl ?_
          refine xp_iconst (n := 1) rfl (by decide) ?_
          refine xp_icne 106 rfl (by decide) (by omega) (by omega) (fun h97 => ?_) (fun h97 => ?_)
          · exfalso; omega
          · skip
            refine xp_lload_n rfl rfl ?_
            refine xp_l2i rfl ?_
            refine xp_i2l rfl ?_
            refine xp_goto 107 rfl (by decide) ?_
            refine xp_last rfl (by first | assumption | exact hL.t rfl) (by omega) (by omega) ?_
            refine xp_return rfl (by decide) (by decide) (by decide) ?_
            exact ⟨_, rfl, z1, fun q => by rw [y3 q] at z2 ⊢; exact z2, z3⟩
        · exfalso; omega
      · exfalso; omega
    · rw [if_neg (by omega), if_pos hk]
      rw [hk] at g1
      refine xp_aload_n rfl rfl ?_
      refine xp_iconst (n := 0) rfl (by decide) ?_
      refine xp_iconst (n := 4) rfl (by decide) ?_
      refine xp_iconst (n := 1) rfl (by decide) ?_
      refine xp_iv rfl rfl (Nat.le_of_ble_eq_true rfl) (by decide) (by decide) (by decide) (Nat.le_of_ble_eq_true rfl) rfl (xrcv1 (by decide) (by first | assumption | exact hL.t rfl)) (g1) rfl ?_
      refine xp_istore_n rfl (by decide) ?_
      refine xp_lconst (v := 0) rfl rfl ?_
      refine xp_lstore_n rfl (by decide) ?_
      refine xp_iload_n rfl rfl ?_
      refine xp_iconst (n := 1) rfl (by decide) ?_
      refine xp_iceq 20 rfl (by decide) (by omega) (by omega) (fun h12 => ?_) (fun h12 => ?_)
      · exfalso; omega
      · skip
        refine xp_iload_n rfl rfl ?_
        refine xp_iconst (n := 2) rfl (by decide) ?_
        refine xp_icne 64 rfl (by decide) (by omega) (by omega) (fun h17 => ?_) (fun h17 => ?_)
        · exfalso; omega
        · skip
          refine xp_iconst (n := 0) rfl (by decide) ?_
          refine xp_istore rfl (by decide) ?_
          refine xp_weak [(0, .ref 189), (1, .int (nI c)), (2, .int (nI 2)), (3, .long 0), (5, .int (nI 0))] (xle_cons rfl (xle_cons rfl (xle_cons rfl (xle_cons rfl (xle_cons rfl (xle_nil _)))))) (by simp [xnd]) ?_
          refine l163 (k := 2) (n := 8) hL hu (by omega) 8 0 0 0 r.2 B1 (by omega) hI1 g2 (fun _ => rfl) (fun v2 B2 y1 y2 y3 => ?_)
          obtain ⟨z1, z2, z3⟩ := st (aRn 8 0 0 r.2).2 B2 2 v2 y1 (g6.trans y2)
          refine xp_iload_n rfl rfl ?_
          refine xp_iconst (n := 2) rfl (by decide) ?_
          refine xp_icle 83 rfl (by decide) (by omega) (by omega) (fun h66 => ?_) (fun h66 => ?_)
          · skip
            refine xp_aload_n rfl rfl ?_
            refine xp_gfa rfl rfl (by decide) (by decide) (by first | assumption | exact hL.t rfl) (by first | assumption | exact hL.r rfl | exact hL.2.2.2.2.2) ?_
            refine xp_iload_n rfl rfl ?_
            refine xp_iload_n rfl rfl ?_
            refine xp_iast rfl (by first | assumption | exact hL.t rfl) (by omega) (by omega) ?_
            refine xp_aload_n rfl rfl ?_
            refine xp_gfa rfl rfl (by decide) (by decide) (by first | assumption | exact hL.t rfl) (by first | assumption | exact hL.r rfl | exact hL.2.2.2.2.2) ?_
            refine xp_iload_n rfl rfl ?_
            refine xp_iload_n rfl rfl ?_
            refine xp_iconst (n := 1) rfl (by decide) ?_
            refine xp_icne 106 rfl (by decide) (by omega) (by omega) (fun h97 => ?_) (fun h97 => ?_)
            · skip
              refine xp_lload_n rfl rfl ?_
              refine xp_last rfl (by first | assumption | exact hL.t rfl) (by omega) (by omega) ?_
              refine xp_return rfl (by decide) (by decide) (by decide) ?_
              exact ⟨_, rfl, z1, fun q => by rw [y3 q] at z2 ⊢; exact z2, z3⟩
            · exfalso; omega
          · exfalso; omega
    · rw [if_neg (by omega), if_neg (by omega), if_neg (by omega)]
      obtain ⟨x2, B2, y1, y2, y3, y4, y5⟩ := m162 (z := z) (k := 3) hL hu hI1 hl1 g2 hE (by omega)
      obtain ⟨z1, z2, z3⟩ := st (aRo u 3 r.2).2 B2 3 (lN x2) y2 (g6.trans y5)
      rw [hk] at g1
      rw [hk]
      refine xp_aload_n rfl rfl ?_
      refine xp_iconst (n := 0) rfl (by decide) ?_
      refine xp_iconst (n := 4) rfl (by decide) ?_
      refine xp_iconst (n := 1) rfl (by decide) ?_
      refine xp_iv rfl rfl (Nat.le_of_ble_eq_true rfl) (by decide) (by decide) (by decide) (Nat.le_of_ble_eq_true rfl) rfl (xrcv1 (by decide) (by first | assumption | exact hL.t rfl)) (g1) rfl ?_
      refine xp_istore_n rfl (by decide) ?_
      refine xp_lconst (v := 0) rfl rfl ?_
      refine xp_lstore_n rfl (by decide) ?_
      refine xp_iload_n rfl rfl ?_
      refine xp_iconst (n := 1) rfl (by decide) ?_
      refine xp_iceq 20 rfl (by decide) (by omega) (by omega) (fun h12 => ?_) (fun h12 => ?_)
      · exfalso; omega
      · skip
        refine xp_iload_n rfl rfl ?_
        refine xp_iconst (n := 2) rfl (by decide) ?_
        refine xp_icne 64 rfl (by decide) (by omega) (by omega) (fun h17 => ?_) (fun h17 => ?_)
        · skip
          refine xp_iload_n rfl rfl ?_
          refine xp_iconst (n := 2) rfl (by decide) ?_
          refine xp_icle 83 rfl (by decide) (by omega) (by omega) (fun h66 => ?_) (fun h66 => ?_)
          · exfalso; omega
          · skip
            refine xp_aload_n rfl rfl ?_
            refine xp_gfi rfl rfl (by decide) (by decide) (by first | assumption | exact hL.t rfl) ?_
            rw [t1]
            refine xp_ifne 83 rfl (by decide) (by omega) (fun h73 => ?_) (fun h73 => ?_)
            · exfalso; omega
            · skip
              refine xp_aload_n rfl rfl ?_
              refine xp_iload_n rfl rfl ?_
              refine xp_iv rfl rfl (Nat.le_of_ble_eq_true rfl) (by decide) (by decide) (by decide) (Nat.le_of_ble_eq_true rfl) rfl (xrcv1 (by decide) (by first | assumption | exact hL.t rfl)) (y1) rfl ?_
              refine xp_i2l rfl ?_
              rw [nI_l (by omega)]
              refine xp_lstore_n rfl (by decide) ?_
              refine xp_aload_n rfl rfl ?_
              refine xp_gfa rfl rfl (by decide) (by decide) (by first | assumption | exact hL.t rfl) (by first | assumption | exact hL.r rfl | exact hL.2.2.2.2.2) ?_
              refine xp_iload_n rfl rfl ?_
              refine xp_iload_n rfl rfl ?_
              refine xp_iast rfl (by first | assumption | exact hL.t rfl) (by omega) (by omega) ?_
              refine xp_aload_n rfl rfl ?_
              refine xp_gfa rfl rfl (by decide) (by decide) (by first | assumption | exact hL.t rfl) (by first | assumption | exact hL.r rfl | exact hL.2.2.2.2.2) ?_
              refine xp_iload_n rfl rfl ?_
              refine xp_iload_n rfl rfl ?_
              refine xp_iconst (n := 1) rfl (by decide) ?_
              refine xp_icne 106 rfl (by decide) (by omega) (by omega) (fun h97 => ?_) (fun h97 => ?_)
              · skip
                refine xp_lload_n rfl rfl ?_
                refine xp_last rfl (by first | assumption | exact hL.t rfl) (by omega) (by omega) ?_
                refine xp_return rfl (by decide) (by decide) (by decide) ?_
                exact ⟨_, rfl, z1, fun q => by rw [y4 q] at z2 ⊢; exact z2, z3⟩
              · exfalso; omega
        · exfalso; omega
    · rw [if_neg (by omega), if_neg (by omega), if_neg (by omega)]
      obtain ⟨x2, B2, y1, y2, y3, y4, y5⟩ := m162 (z := z) (k := 4) hL hu hI1 hl1 g2 hE (by omega)
      obtain ⟨z1, z2, z3⟩ := st (aRo u 4 r.2).2 B2 4 (lN x2) y2 (g6.trans y5)
      rw [hk] at g1
      rw [hk]
      refine xp_aload_n rfl rfl ?_
      refine xp_iconst (n := 0) rfl (by decide) ?_
      refine xp_iconst (n := 4) rfl (by decide) ?_
      refine xp_iconst (n := 1) rfl (by decide) ?_
      refine xp_iv rfl rfl (Nat.le_of_ble_eq_true rfl) (by decide) (by decide) (by decide) (Nat.le_of_ble_eq_true rfl) rfl (xrcv1 (by decide) (by first | assumption | exact hL.t rfl)) (g1) rfl ?_
      refine xp_istore_n rfl (by decide) ?_
      refine xp_lconst (v := 0) rfl rfl ?_
      refine xp_lstore_n rfl (by decide) ?_
      refine xp_iload_n rfl rfl ?_
      refine xp_iconst (n := 1) rfl (by decide) ?_
      refine xp_iceq 20 rfl (by decide) (by omega) (by omega) (fun h12 => ?_) (fun h12 => ?_)
      · exfalso; omega
      · skip
        refine xp_iload_n rfl rfl ?_
        refine xp_iconst (n := 2) rfl (by decide) ?_
        refine xp_icne 64 rfl (by decide) (by omega) (by omega) (fun h17 => ?_) (fun h17 => ?_)
        · skip
          refine xp_iload_n rfl rfl ?_
          refine xp_iconst (n := 2) rfl (by decide) ?_
          refine xp_icle 83 rfl (by decide) (by omega) (by omega) (fun h66 => ?_) (fun h66 => ?_)
          · exfalso; omega
          · skip
            refine xp_aload_n rfl rfl ?_
            refine xp_gfi rfl rfl (by decide) (by decide) (by first | assumption | exact hL.t rfl) ?_
            rw [t1]
            refine xp_ifne 83 rfl (by decide) (by omega) (fun h73 => ?_) (fun h73 => ?_)
            · exfalso; omega
            · skip
              refine xp_aload_n rfl rfl ?_
              refine xp_iload_n rfl rfl ?_
              refine xp_iv rfl rfl (Nat.le_of_ble_eq_true rfl) (by decide) (by decide) (by decide) (Nat.le_of_ble_eq_true rfl) rfl (xrcv1 (by decide) (by first | assumption | exact hL.t rfl)) (y1) rfl ?_
              refine xp_i2l rfl ?_
              rw [nI_l (by omega)]
              refine xp_lstore_n rfl (by decide) ?_
              refine xp_aload_n rfl rfl ?_
              refine xp_gfa rfl rfl (by decide) (by decide) (by first | assumption | exact hL.t rfl) (by first | assumption | exact hL.r rfl | exact hL.2.2.2.2.2) ?_
              refine xp_iload_n rfl rfl ?_
              refine xp_iload_n rfl rfl ?_
              refine xp_iast rfl (by first | assumption | exact hL.t rfl) (by omega) (by omega) ?_
              refine xp_aload_n rfl rfl ?_
              refine xp_gfa rfl rfl (by decide) (by decide) (by first | assumption | exact hL.t rfl) (by first | assumption | exact hL.r rfl | exact hL.2.2.2.2.2) ?_
              refine xp_iload_n rfl rfl ?_
              refine xp_iload_n rfl rfl ?_
              refine xp_iconst (n := 1) rfl (by decide) ?_
              refine xp_icne 106 rfl (by decide) (by omega) (by omega) (fun h97 => ?_) (fun h97 => ?_)
              · skip
                refine xp_lload_n rfl rfl ?_
                refine xp_last rfl (by first | assumption | exact hL.t rfl) (by omega) (by omega) ?_
                refine xp_return rfl (by decide) (by decide) (by decide) ?_
                exact ⟨_, rfl, z1, fun q => by rw [y4 q] at z2 ⊢; exact z2, z3⟩
              · exfalso; omega
        · exfalso; omega
  · have hx := g5 hE
    have t1 := g2.2.2.2.2.2.2 hE
    have t2 := g2.2.2.1
    have e0 : (aRb 0 4 A).1 = 0 := by
      unfold aRb at hE ⊢
      by_cases hn : A.1 102 2 = 4294967294
      · rw [if_pos hn] at hE ⊢
        by_cases q : A.1 102 4 < A.1 99 1 ∧ 0 ≤ A.1 100 (A.1 102 4) ∧ A.1 100 (A.1 102 4) ≤ 4
        · rw [if_pos q] at hE
          exact absurd (by show (xsI A 102 4 _).1 102 2 = _; rw [xsI_ne (by omega)]; exact hn) hE
        · rw [if_neg q]
      · rw [if_neg hn]
    have ev : aVal u A = (0, 0, (aRb 0 4 A).2) := by
      unfold aVal
      rw [if_neg (by omega), if_neg (by omega), if_pos e0]
    rw [ev]
    obtain ⟨z1, z2, z3⟩ := st (aRb 0 4 A).2 B1 x 0 g2 g6
    refine xp_aload_n rfl rfl ?_
    refine xp_iconst (n := 0) rfl (by decide) ?_
    refine xp_iconst (n := 4) rfl (by decide) ?_
    refine xp_iconst (n := 1) rfl (by decide) ?_
    refine xp_iv rfl rfl (Nat.le_of_ble_eq_true rfl) (by decide) (by decide) (by decide) (Nat.le_of_ble_eq_true rfl) rfl (xrcv1 (by decide) (by first | assumption | exact hL.t rfl)) (g1) rfl ?_
    refine xp_istore_n rfl (by decide) ?_
    refine xp_lconst (v := 0) rfl rfl ?_
    refine xp_lstore_n rfl (by decide) ?_
    refine xp_iload_n rfl rfl ?_
    refine xp_iconst (n := 1) rfl (by decide) ?_
    refine xp_iceq 20 rfl (by decide) (by omega) (by omega) (fun h12 => ?_) (fun h12 => ?_)
    · exfalso; omega
    · skip
      refine xp_iload_n rfl rfl ?_
      refine xp_iconst (n := 2) rfl (by decide) ?_
      refine xp_icne 64 rfl (by decide) (by omega) (by omega) (fun h17 => ?_) (fun h17 => ?_)
      · skip
        refine xp_iload_n rfl rfl ?_
        refine xp_iconst (n := 2) rfl (by decide) ?_
        refine xp_icle 83 rfl (by decide) (by omega) (by omega) (fun h66 => ?_) (fun h66 => ?_)
        · skip
          refine xp_aload_n rfl rfl ?_
          refine xp_gfa rfl rfl (by decide) (by decide) (by first | assumption | exact hL.t rfl) (by first | assumption | exact hL.r rfl | exact hL.2.2.2.2.2) ?_
          refine xp_iload_n rfl rfl ?_
          refine xp_iload_n rfl rfl ?_
          refine xp_iast rfl (by first | assumption | exact hL.t rfl) (by omega) (by omega) ?_
          refine xp_aload_n rfl rfl ?_
          refine xp_gfa rfl rfl (by decide) (by decide) (by first | assumption | exact hL.t rfl) (by first | assumption | exact hL.r rfl | exact hL.2.2.2.2.2) ?_
          refine xp_iload_n rfl rfl ?_
          refine xp_iload_n rfl rfl ?_
          refine xp_iconst (n := 1) rfl (by decide) ?_
          refine xp_icne 106 rfl (by decide) (by omega) (by omega) (fun h97 => ?_) (fun h97 => ?_)
          · skip
            refine xp_lload_n rfl rfl ?_
            refine xp_last rfl (by first | assumption | exact hL.t rfl) (by omega) (by omega) ?_
            refine xp_return rfl (by decide) (by decide) (by decide) ?_
            exact ⟨_, rfl, z1, fun q => absurd q hE, z3⟩
          · exfalso; omega
        · skip
          refine xp_aload_n rfl rfl ?_
          refine xp_gfi rfl rfl (by decide) (by decide) (by first | assumption | exact hL.t rfl) ?_
          refine xp_ifne 83 rfl (by decide) (by omega) (fun h73 => ?_) (fun h73 => ?_)
          · skip
            refine xp_aload_n rfl rfl ?_
            refine xp_gfa rfl rfl (by decide) (by decide) (by first | assumption | exact hL.t rfl) (by first | assumption | exact hL.r rfl | exact hL.2.2.2.2.2) ?_
            refine xp_iload_n rfl rfl ?_
            refine xp_iload_n rfl rfl ?_
            refine xp_iast rfl (by first | assumption | exact hL.t rfl) (by omega) (by omega) ?_
            refine xp_aload_n rfl rfl ?_
            refine xp_gfa rfl rfl (by decide) (by decide) (by first | assumption | exact hL.t rfl) (by first | assumption | exact hL.r rfl | exact hL.2.2.2.2.2) ?_
            refine xp_iload_n rfl rfl ?_
            refine xp_iload_n rfl rfl ?_
            refine xp_iconst (n := 1) rfl (by decide) ?_
            refine xp_icne 106 rfl (by decide) (by omega) (by omega) (fun h97 => ?_) (fun h97 => ?_)
            · skip
              refine xp_lload_n rfl rfl ?_
              refine xp_last rfl (by first | assumption | exact hL.t rfl) (by omega) (by omega) ?_
              refine xp_return rfl (by decide) (by decide) (by decide) ?_
              exact ⟨_, rfl, z1, fun q => absurd q hE, z3⟩
            · exfalso; omega
          · exfalso; omega
      · exfalso; omega
