-- said, value, where, image, cut
theorem nI_subm2 (b : Nat) : nI b - nI 1 = nI ((b + 4294967295) % 2 ^ 32) := by rw [nI_subm, nI_mod]
theorem COk.oth {w : Nat} {A A2 : xQ} (h : COk w A) (h1 : ∀ a j, (a ≤ 10 ∨ (w ≤ a ∧ a ≤ w + 85)) → A2.1 a j = A.1 a j) (h2 : ∀ a j, (w ≤ a ∧ a ≤ w + 85) → A2.2 a j = A.2 a j) : COk w A2 := by
  obtain ⟨h0, ⟨w1, w2, w3⟩, g2, g3, g4, g5⟩ := h
  have ehp : ∀ o, A2.1 (w + 3) o = A.1 (w + 3) o := fun o => h1 _ _ (by omega)
  refine ⟨h0, ⟨by rw [h1 w 2 (by omega)]; exact w1, fun u hu => ?_, fun o ho => ?_⟩, g2.same (fun a j _ _ => h1 _ _ (by omega)), g3.same (h1 _ _ (by omega)) ehp, fun u hu i hi => ?_, by rw [h1 w 3 (by omega)]; exact g5⟩
  · rw [h1 w 2 (by omega)] at hu
    exact (w2 u hu).away (fun a j _ _ => h1 a j (by omega)) (fun a j q1 q2 => h2 a j (by omega)) (fun o _ => ehp o)
  · exact (w3 o ho).same ehp (h1 _ _ (by omega)) (h1 _ _ (by omega)) (fun j => h1 _ _ (by omega)) (fun j => h2 _ j (by omega))
  · rw [h1 w 2 (by omega)] at hu
    have hu5 := (w2 u hu).2.1
    rw [h1 _ 3 (by omega)] at hi
    rw [h1 _ 2 (by omega)]
    exact g4 u hu i hi
theorem TOk.oth {w : Nat} {A A2 : xQ} (h : TOk w A) (hc : A.1 w 2 ≤ 3) (ht : A.1 w 3 < 3) (h1 : ∀ a j, (w ≤ a ∧ a ≤ w + 85) → A2.1 a j = A.1 a j) : TOk w A2 := by
  intro hn
  rw [h1 w 2 (by omega)] at hn ⊢
  obtain ⟨g1, g2, g3⟩ := h hn
  rw [h1 w 3 (by omega), h1 w 4 (by omega)]
  refine ⟨g1, g2, fun ⟨t, q1, q2⟩ => ?_⟩
  rw [h1 w 2 (by omega)] at q1
  rw [h1 _ 2 (by omega)] at q2
  have := g3 ⟨t, q1, q2⟩
  unfold aSt at this ⊢
  rw [h1 w 3 (by omega), h1 _ 2 (by omega)]
  exact this
/-- the image changes, nothing else -/
theorem Rel.img {w : Nat} {A B A2 B2 : xQ} (h : Rel w A B) (hc : COk w A) (h1 : ∀ a j, a ≤ 188 → a ≠ 99 → a ≠ 100 → a ≠ 102 → A2.1 a j = A.1 a j) (h2 : ∀ a j, a ≤ 188 → A2.2 a j = A.2 a j) (g1 : ∀ a j, relB a j → (a ≠ 189 ∨ (j ≠ 35 ∧ j ≠ 37)) → a ≠ 214 → B2.1 a j = B.1 a j) (g2 : ∀ a j, a = 207 ∨ a = 213 → B2.2 a j = B.2 a j) (hI : RelI A2 B2) : Rel w A2 B2 := by
  have h0 := hc.1
  have hc3 := hc.cnt
  unfold relB at g1
  obtain ⟨r1, r2, r3, r4, r5⟩ := h
  refine ⟨r1.same (fun a j _ _ => h1 a j (by omega) (by omega) (by omega) (by omega)) (fun a j _ _ => g1 a j (by omega) (by omega) (by omega)), hI, r3.same (fun j => h1 _ _ (by omega) (by omega) (by omega) (by omega)) (h1 _ _ (by omega) (by omega) (by omega) (by omega)) (fun j => h1 _ _ (by omega) (by omega) (by omega) (by omega)) (fun j => h2 _ _ (by omega)) (fun j _ _ _ => g1 _ _ (by omega) (by omega) (by omega)) (fun j => g2 _ _ (by omega)), fun u hu => ?_, fun o ho => ?_⟩
  · rw [h1 w 2 (by omega) (by omega) (by omega) (by omega)] at hu
    exact (r4 u hu).away (by omega) (hc.st hu) (fun a j _ _ => h1 a j (by omega) (by omega) (by omega) (by omega)) (fun a j _ _ => h2 a j (by omega)) (fun a _ _ => g1 a _ (by omega) (by omega) (by omega)) (fun a j _ _ _ _ => g1 a j (by omega) (by omega) (by omega)) (fun j _ => g1 _ j (by omega) (by omega) (by omega)) (fun j _ => g2 _ j (by omega))
  · exact (r5 o ho).away (hc.2.1.2.2 o ho) (fun a _ _ => h1 a _ (by omega) (by omega) (by omega) (by omega)) (fun i _ => h1 _ _ (by omega) (by omega) (by omega) (by omega)) (fun i _ => h2 _ _ (by omega)) (fun a _ _ _ => g1 a _ (by omega) (by omega) (by omega)) (fun i _ => g1 _ _ (by omega) (by omega) (by omega)) (fun i _ => g2 _ _ (by omega))
theorem c6 {z : Nat} {T : Nat → Option xT} {R : Nat → Nat → Option Nat} {A : xQ} {w k : Nat} (hL : xLay T R w) (hk : k < 40) (hk2 : k < A.1 11 3) (hs : A.1 11 3 < 2 ^ 31) : xF 6 [.ref 0, .int (nI k)] (xm z T R A) (.inr (some (.long (A.2 98 k))), xm z T R A) := by
  refine xF_eq (xF_p (Nat.le_of_ble_eq_true rfl) ?_)
  refine xp_iload_n rfl rfl ?_
  refine xp_iflt 21 rfl (by decide) (by omega) (fun h1 => ?_) (fun h1 => ?_)
  · exfalso; omega
  · skip
    refine xp_iload_n rfl rfl ?_
    refine xp_bipush (n := 40) rfl (by decide) ?_
    refine xp_icge 21 rfl (by decide) (by omega) (by omega) (fun h7 => ?_) (fun h7 => ?_)
    · exfalso; omega
    · skip
      refine xp_iload_n rfl rfl ?_
      refine xp_aload_n rfl rfl ?_
      refine xp_gfa rfl rfl (by decide) (by decide) (by first | assumption | exact hL.t rfl) (by first | assumption | exact hL.r rfl | exact hL.2.2.2.2.2) ?_
      refine xp_gfi rfl rfl (by decide) (by decide) (by first | assumption | exact hL.t rfl) ?_
      refine xp_iclt 29 rfl (by decide) (by omega) (by omega) (fun h18 => ?_) (fun h18 => ?_)
      · skip
        refine xp_aload_n rfl rfl ?_
        refine xp_gfa rfl rfl (by decide) (by decide) (by first | assumption | exact hL.t rfl) (by first | assumption | exact hL.r rfl | exact hL.2.2.2.2.2) ?_
        refine xp_gfa rfl rfl (by decide) (by decide) (by first | assumption | exact hL.t rfl) (by first | assumption | exact hL.r rfl | exact hL.2.2.2.2.2) ?_
        refine xp_iload_n rfl rfl ?_
        refine xp_lald rfl (by first | assumption | exact hL.t rfl) (by omega) (by omega) ?_
        refine xp_lreturn rfl (by decide) (by decide) (by decide) ?_
        rfl
      · exfalso; omega
theorem c6a {z : Nat} {T : Nat → Option xT} {R : Nat → Nat → Option Nat} {A : xQ} {w k : Nat} (hL : xLay T R w) (hk : k < 2 ^ 32) (hq : ¬ (k < 40 ∧ k < A.1 11 3)) (hs : A.1 11 3 < 2 ^ 31) : xF 6 [.ref 0, .int (nI k)] (xm z T R A) (.inl 2, xm (z + 1) T R A) := by
  refine xF_eq (xF_p (Nat.le_of_ble_eq_true rfl) ?_)
  refine xp_iload_n rfl rfl ?_
  refine xp_iflt 21 rfl (by decide) (by omega) (fun h1 => ?_) (fun h1 => ?_)
  · skip
    refine xp_throw rfl rfl (Nat.le_of_ble_eq_true rfl) (by decide) (by decide) (by decide) ?_
    rfl
  · skip
    refine xp_iload_n rfl rfl ?_
    refine xp_bipush (n := 40) rfl (by decide) ?_
    refine xp_icge 21 rfl (by decide) (by omega) (by omega) (fun h7 => ?_) (fun h7 => ?_)
    · skip
      refine xp_throw rfl rfl (Nat.le_of_ble_eq_true rfl) (by decide) (by decide) (by decide) ?_
      rfl
    · skip
      refine xp_iload_n rfl rfl ?_
      refine xp_aload_n rfl rfl ?_
      refine xp_gfa rfl rfl (by decide) (by decide) (by first | assumption | exact hL.t rfl) (by first | assumption | exact hL.r rfl | exact hL.2.2.2.2.2) ?_
      refine xp_gfi rfl rfl (by decide) (by decide) (by first | assumption | exact hL.t rfl) ?_
      refine xp_iclt 29 rfl (by decide) (by omega) (by omega) (fun h18 => ?_) (fun h18 => ?_)
      · exfalso; omega
      · skip
        refine xp_throw rfl rfl (Nat.le_of_ble_eq_true rfl) (by decide) (by decide) (by decide) ?_
        rfl
theorem m149 {z : Nat} {T : Nat → Option xT} {R : Nat → Nat → Option Nat} {B : xQ} {w k : Nat} (hL : xLay T R w) (hk : k < 40) (hk2 : k < B.1 189 13) (hs : B.1 189 13 < 2 ^ 31) : xF 149 [.ref 189, .int (nI k)] (xm z T R B) (.inr (some (.long (B.2 213 k))), xm z T R (xsI B 189 14 0)) := by
  have e : ∀ m, m = (if B.1 189 13 < 40 then B.1 189 13 else 40) → mIn k 0 ((m + 4294967295) % 2 ^ 32) = 1 := by
    intro m hm
    have hm40 : m ≤ 40 ∧ (m = B.1 189 13 ∨ (m = 40 ∧ 40 ≤ B.1 189 13)) := by
      rw [hm]
      split <;> omega
    by_cases h0 : m = 0
    · subst h0
      unfold mIn
      rw [show (0 + 4294967295) % 2 ^ 32 = 4294967295 from rfl, sg_n (n := 4294967295) (by omega), sg_p (n := 0) (by omega)]
      by_cases q : k < 2 ^ 31
      · rw [sg_p q, if_neg (by omega)]
        omega
      · rw [sg_n (by omega), if_neg (by omega)]
        omega
    · have em : (m + 4294967295) % 2 ^ 32 = m - 1 := by omega
      rw [em]
      by_cases q : k < 2 ^ 31
      · rw [mIn_p q (by omega) (by omega)]
        split <;> omega
      · rw [mIn_n (by omega) (by omega) (by omega)]
        omega
  refine xF_eq (xF_p (Nat.le_of_ble_eq_true rfl) ?_)
  refine xp_aload_n rfl rfl ?_
  refine xp_iload_n rfl rfl ?_
  refine xp_iconst (n := 0) rfl (by decide) ?_
  refine xp_aload_n rfl rfl ?_
  refine xp_gfi rfl rfl (by decide) (by decide) (by first | assumption | exact hL.t rfl) ?_
  refine xp_bipush (n := 40) rfl (by decide) ?_
  refine xp_icge 19 rfl (by decide) (by omega) (by omega) (fun h9 => ?_) (fun h9 => ?_)
  · skip
    refine xp_bipush (n := 40) rfl (by decide) ?_
    refine xp_iconst (n := 1) rfl (by decide) ?_
    refine xp_isubR rfl ?_
    rw [nI_subm2]
    refine xp_is rfl rfl rfl (Nat.le_of_ble_eq_true rfl) (by decide) (by decide) (by decide) (Nat.le_of_ble_eq_true rfl) rfl (xrcv0 (by decide) _ _) (m112 (by omega) (by omega) (by omega)) rfl ?_
    first | rw [e _ (by rw [if_pos (by omega)])] | rw [e _ (by rw [if_neg (by omega)])]
    refine xp_ifeq 33 rfl (by decide) (by omega) (fun h26 => ?_) (fun h26 => ?_)
    · exfalso; omega
    · skip
      refine xp_iconst (n := 0) rfl (by decide) ?_
      refine xp_goto 34 rfl (by decide) ?_
      refine xp_pfi rfl rfl (by decide) (by decide) (by decide) (by first | assumption | exact hL.t rfl) ?_
      refine xp_aload_n rfl rfl ?_
      refine xp_gfi rfl rfl (by decide) (by decide) (by first | assumption | exact hL.t rfl) ?_
      rw [xsI_eq]
      refine xp_ifle 48 rfl (by decide) (by omega) (fun h41 => ?_) (fun h41 => ?_)
      · skip
        refine xp_aload_n rfl rfl ?_
        refine xp_gfa rfl rfl (by decide) (by decide) (by first | assumption | exact hL.t rfl) (by first | assumption | exact hL.r rfl | exact hL.2.2.2.2.2) ?_
        refine xp_iload_n rfl rfl ?_
        refine xp_lald rfl (by first | assumption | exact hL.t rfl) (by omega) (by omega) ?_
        refine xp_lreturn rfl (by decide) (by decide) (by decide) ?_
        rfl
      · exfalso; omega
  · skip
    refine xp_aload_n rfl rfl ?_
    refine xp_gfi rfl rfl (by decide) (by decide) (by first | assumption | exact hL.t rfl) ?_
    refine xp_goto 21 rfl (by decide) ?_
    refine xp_iconst (n := 1) rfl (by decide) ?_
    refine xp_isubR rfl ?_
    rw [nI_subm2]
    refine xp_is rfl rfl rfl (Nat.le_of_ble_eq_true rfl) (by decide) (by decide) (by decide) (Nat.le_of_ble_eq_true rfl) rfl (xrcv0 (by decide) _ _) (m112 (by omega) (by omega) (by omega)) rfl ?_
    first | rw [e _ (by rw [if_pos (by omega)])] | rw [e _ (by rw [if_neg (by omega)])]
    refine xp_ifeq 33 rfl (by decide) (by omega) (fun h26 => ?_) (fun h26 => ?_)
    · exfalso; omega
    · skip
      refine xp_iconst (n := 0) rfl (by decide) ?_
      refine xp_goto 34 rfl (by decide) ?_
      refine xp_pfi rfl rfl (by decide) (by decide) (by decide) (by first | assumption | exact hL.t rfl) ?_
      refine xp_aload_n rfl rfl ?_
      refine xp_gfi rfl rfl (by decide) (by decide) (by first | assumption | exact hL.t rfl) ?_
      rw [xsI_eq]
      refine xp_ifle 48 rfl (by decide) (by omega) (fun h41 => ?_) (fun h41 => ?_)
      · skip
        refine xp_aload_n rfl rfl ?_
        refine xp_gfa rfl rfl (by decide) (by decide) (by first | assumption | exact hL.t rfl) (by first | assumption | exact hL.r rfl | exact hL.2.2.2.2.2) ?_
        refine xp_iload_n rfl rfl ?_
        refine xp_lald rfl (by first | assumption | exact hL.t rfl) (by omega) (by omega) ?_
        refine xp_lreturn rfl (by decide) (by decide) (by decide) ?_
        rfl
      · exfalso; omega
theorem m149a {z : Nat} {T : Nat → Option xT} {R : Nat → Nat → Option Nat} {B : xQ} {w k : Nat} (hL : xLay T R w) (hk : k < 2 ^ 32) (hq : ¬ (k < 40 ∧ k < B.1 189 13)) (hs : B.1 189 13 < 2 ^ 31) : xF 149 [.ref 189, .int (nI k)] (xm z T R B) (.inr (some (.long (0))), xm z T R (xsI B 189 14 1)) := by
  have e : ∀ m, m = (if B.1 189 13 < 40 then B.1 189 13 else 40) → mIn k 0 ((m + 4294967295) % 2 ^ 32) = 0 := by
    intro m hm
    have hm40 : m ≤ 40 ∧ (m = B.1 189 13 ∨ (m = 40 ∧ 40 ≤ B.1 189 13)) := by
      rw [hm]
      split <;> omega
    by_cases h0 : m = 0
    · subst h0
      unfold mIn
      rw [show (0 + 4294967295) % 2 ^ 32 = 4294967295 from rfl, sg_n (n := 4294967295) (by omega), sg_p (n := 0) (by omega)]
      by_cases q : k < 2 ^ 31
      · rw [sg_p q, if_neg (by omega)]
      · rw [sg_n (by omega), if_neg (by omega)]
    · have em : (m + 4294967295) % 2 ^ 32 = m - 1 := by omega
      rw [em]
      by_cases q : k < 2 ^ 31
      · rw [mIn_p q (by omega) (by omega)]
        split <;> omega
      · rw [mIn_n (by omega) (by omega) (by omega)]
  refine xF_eq (xF_p (Nat.le_of_ble_eq_true rfl) ?_)
  refine xp_aload_n rfl rfl ?_
  refine xp_iload_n rfl rfl ?_
  refine xp_iconst (n := 0) rfl (by decide) ?_
  refine xp_aload_n rfl rfl ?_
  refine xp_gfi rfl rfl (by decide) (by decide) (by first | assumption | exact hL.t rfl) ?_
  refine xp_bipush (n := 40) rfl (by decide) ?_
  refine xp_icge 19 rfl (by decide) (by omega) (by omega) (fun h9 => ?_) (fun h9 => ?_)
  · skip
    refine xp_bipush (n := 40) rfl (by decide) ?_
    refine xp_iconst (n := 1) rfl (by decide) ?_
    refine xp_isubR rfl ?_
    rw [nI_subm2]
    refine xp_is rfl rfl rfl (Nat.le_of_ble_eq_true rfl) (by decide) (by decide) (by decide) (Nat.le_of_ble_eq_true rfl) rfl (xrcv0 (by decide) _ _) (m112 (by omega) (by omega) (by omega)) rfl ?_
    first | rw [e _ (by rw [if_pos (by omega)])] | rw [e _ (by rw [if_neg (by omega)])]
    refine xp_ifeq 33 rfl (by decide) (by omega) (fun h26 => ?_) (fun h26 => ?_)
    · skip
      refine xp_iconst (n := 1) rfl (by decide) ?_
      refine xp_pfi rfl rfl (by decide) (by decide) (by decide) (by first | assumption | exact hL.t rfl) ?_
      refine xp_aload_n rfl rfl ?_
      refine xp_gfi rfl rfl (by decide) (by decide) (by first | assumption | exact hL.t rfl) ?_
      rw [xsI_eq]
      refine xp_ifle 48 rfl (by decide) (by omega) (fun h41 => ?_) (fun h41 => ?_)
      · exfalso; omega
      · skip
        refine xp_lconst rfl rfl ?_
        refine xp_goto 54 rfl (by decide) ?_
        refine xp_lreturn rfl (by decide) (by decide) (by decide) ?_
        rfl
    · exfalso; omega
  · skip
    refine xp_aload_n rfl rfl ?_
    refine xp_gfi rfl rfl (by decide) (by decide) (by first | assumption | exact hL.t rfl) ?_
    refine xp_goto 21 rfl (by decide) ?_
    refine xp_iconst (n := 1) rfl (by decide) ?_
    refine xp_isubR rfl ?_
    rw [nI_subm2]
    refine xp_is rfl rfl rfl (Nat.le_of_ble_eq_true rfl) (by decide) (by decide) (by decide) (Nat.le_of_ble_eq_true rfl) rfl (xrcv0 (by decide) _ _) (m112 (by omega) (by omega) (by omega)) rfl ?_
    first | rw [e _ (by rw [if_pos (by omega)])] | rw [e _ (by rw [if_neg (by omega)])]
    refine xp_ifeq 33 rfl (by decide) (by omega) (fun h26 => ?_) (fun h26 => ?_)
    · skip
      refine xp_iconst (n := 1) rfl (by decide) ?_
      refine xp_pfi rfl rfl (by decide) (by decide) (by decide) (by first | assumption | exact hL.t rfl) ?_
      refine xp_aload_n rfl rfl ?_
      refine xp_gfi rfl rfl (by decide) (by decide) (by first | assumption | exact hL.t rfl) ?_
      rw [xsI_eq]
      refine xp_ifle 48 rfl (by decide) (by omega) (fun h41 => ?_) (fun h41 => ?_)
      · exfalso; omega
      · skip
        refine xp_lconst rfl rfl ?_
        refine xp_goto 54 rfl (by decide) ?_
        refine xp_lreturn rfl (by decide) (by decide) (by decide) ?_
        rfl
    · exfalso; omega
theorem pub_said (k : Nat) (hk : k < 2 ^ 32) : Pub 6 149 (mpO [(2, 1)]) [.int (nI k)] := by
  refine Pub.mk rfl rfl gC1 gM1 (fun z T R w n A hn hI => ?_)
  obtain ⟨hL, hr, hc, hT, hR, h3, h4⟩ := hI
  by_cases hq : k < 40 ∧ k < A.1 11 3
  · refine Or.inr ⟨_, A, ⟨0, Or.inr ⟨_, rfl⟩⟩, c6 hL hq.1 hq.2 (by omega), hc, hT, by omega, by omega, fun B hB => ?_⟩
    have e13 := hB.2.2.1.2.2.2.2.2.1
    have m := m149 (z := z) (B := B) (k := k) hL hq.1 (by omega) (by omega)
    rw [hB.2.2.1.2.2.2.2.2.2.2.2 k hq.1 hq.2] at m
    exact ⟨_, m, by rw [xsI_eq], hB.thr hc⟩
  · refine Or.inl ⟨2, by decide, c6a hL hk hq (by omega), fun B hB => ?_⟩
    have e13 := hB.2.2.1.2.2.2.2.2.1
    exact ⟨_, _, m149a hL hk (by rw [e13]; exact hq) (by omega), by rw [xsI_eq]; rfl, hB.thr hc⟩
theorem c11 {z : Nat} {T : Nat → Option xT} {R : Nat → Nat → Option Nat} {A : xQ} {w : Nat} (hL : xLay T R w) : xF 11 [.ref 0] (xm z T R A) (.inr (some (.int (nI (A.1 102 2)))), xm z T R A) := by
  refine xF_eq (xF_p (Nat.le_of_ble_eq_true rfl) ?_)
  refine xp_aload_n rfl rfl ?_
  refine xp_gfa rfl rfl (by decide) (by decide) (by first | assumption | exact hL.t rfl) (by first | assumption | exact hL.r rfl | exact hL.2.2.2.2.2) ?_
  refine xp_gfi rfl rfl (by decide) (by decide) (by first | assumption | exact hL.t rfl) ?_
  refine xp_ireturn rfl (by decide) (by decide) (by decide) ?_
  rfl
theorem m169 {z : Nat} {T : Nat → Option xT} {R : Nat → Nat → Option Nat} {B : xQ} {w : Nat} (hL : xLay T R w) : xF 169 [.ref 189] (xm z T R B) (.inr (some (.int (nI (B.1 189 37)))), xm z T R (xsI B 189 14 0)) := by
  have e37 : (xsI B 189 14 0).1 189 37 = B.1 189 37 := xsI_ne (by omega)
  refine xF_eq (xF_p (Nat.le_of_ble_eq_true rfl) ?_)
  refine xp_aload_n rfl rfl ?_
  refine xp_iconst (n := 0) rfl (by decide) ?_
  refine xp_pfi rfl rfl (by decide) (by decide) (by decide) (by first | assumption | exact hL.t rfl) ?_
  refine xp_aload_n rfl rfl ?_
  refine xp_gfi rfl rfl (by decide) (by decide) (by first | assumption | exact hL.t rfl) ?_
  rw [e37]
  refine xp_ireturn rfl (by decide) (by decide) (by decide) ?_
  rfl
theorem pub_where : Pub 11 169 (mpO []) [] := by
  refine Pub.mk rfl rfl gC0 gM0 (fun z T R w n A hn hI => ?_)
  obtain ⟨hL, hr, hc, hT, hR, h3, h4⟩ := hI
  refine Or.inr ⟨_, A, ⟨_, Or.inl rfl⟩, c11 hL, hc, hT, by omega, by omega, fun B hB => ?_⟩
  have m := m169 (z := z) (B := B) hL
  rw [hB.2.1.2.2.1] at m
  exact ⟨_, m, by rw [xsI_eq], hB.thr hc⟩
theorem c14 {z : Nat} {T : Nat → Option xT} {R : Nat → Nat → Option Nat} {A : xQ} {w k : Nat} (hL : xLay T R w) (hk : k ≤ A.1 99 1) (hs : A.1 99 1 ≤ 2400) : xF 14 [.ref 0, .int (nI k)] (xm z T R A) (.inr (some (.int (nI (A.1 99 1 - k)))), xm z T R (xsI A 99 1 k)) := by
  refine xF_eq (xF_p (Nat.le_of_ble_eq_true rfl) ?_)
  refine xp_iload_n rfl rfl ?_
  refine xp_iflt 15 rfl (by decide) (by omega) (fun h1 => ?_) (fun h1 => ?_)
  · exfalso; omega
  · skip
    refine xp_iload_n rfl rfl ?_
    refine xp_aload_n rfl rfl ?_
    refine xp_gfa rfl rfl (by decide) (by decide) (by first | assumption | exact hL.t rfl) (by first | assumption | exact hL.r rfl | exact hL.2.2.2.2.2) ?_
    refine xp_gfi rfl rfl (by decide) (by decide) (by first | assumption | exact hL.t rfl) ?_
    refine xp_icle 23 rfl (by decide) (by omega) (by omega) (fun h12 => ?_) (fun h12 => ?_)
    · skip
      refine xp_aload_n rfl rfl ?_
      refine xp_gfa rfl rfl (by decide) (by decide) (by first | assumption | exact hL.t rfl) (by first | assumption | exact hL.r rfl | exact hL.2.2.2.2.2) ?_
      refine xp_gfi rfl rfl (by decide) (by decide) (by first | assumption | exact hL.t rfl) ?_
      refine xp_iload_n rfl rfl ?_
      refine xp_isub rfl (by omega) ?_
      refine xp_istore_n rfl (by decide) ?_
      refine xp_aload_n rfl rfl ?_
      refine xp_gfa rfl rfl (by decide) (by decide) (by first | assumption | exact hL.t rfl) (by first | assumption | exact hL.r rfl | exact hL.2.2.2.2.2) ?_
      refine xp_iload_n rfl rfl ?_
      refine xp_pfi rfl rfl (by decide) (by decide) (by decide) (by first | assumption | exact hL.t rfl) ?_
      refine xp_iload_n rfl rfl ?_
      refine xp_ireturn rfl (by decide) (by decide) (by decide) ?_
      rfl
    · exfalso; omega
theorem c14a {z : Nat} {T : Nat → Option xT} {R : Nat → Nat → Option Nat} {A : xQ} {w k : Nat} (hL : xLay T R w) (hk : k < 2 ^ 32) (hq : ¬ k ≤ A.1 99 1) (hs : A.1 99 1 ≤ 2400) : xF 14 [.ref 0, .int (nI k)] (xm z T R A) (.inl 0, xm (z + 1) T R A) := by
  refine xF_eq (xF_p (Nat.le_of_ble_eq_true rfl) ?_)
  refine xp_iload_n rfl rfl ?_
  refine xp_iflt 15 rfl (by decide) (by omega) (fun h1 => ?_) (fun h1 => ?_)
  · skip
    refine xp_throw rfl rfl (Nat.le_of_ble_eq_true rfl) (by decide) (by decide) (by decide) ?_
    rfl
  · skip
    refine xp_iload_n rfl rfl ?_
    refine xp_aload_n rfl rfl ?_
    refine xp_gfa rfl rfl (by decide) (by decide) (by first | assumption | exact hL.t rfl) (by first | assumption | exact hL.r rfl | exact hL.2.2.2.2.2) ?_
    refine xp_gfi rfl rfl (by decide) (by decide) (by first | assumption | exact hL.t rfl) ?_
    refine xp_icle 23 rfl (by decide) (by omega) (by omega) (fun h12 => ?_) (fun h12 => ?_)
    · exfalso; omega
    · skip
      refine xp_throw rfl rfl (Nat.le_of_ble_eq_true rfl) (by decide) (by decide) (by decide) ?_
      rfl
theorem m172 {z : Nat} {T : Nat → Option xT} {R : Nat → Nat → Option Nat} {B : xQ} {w k : Nat} (hL : xLay T R w) (hk : k ≤ B.1 189 35) (hs : B.1 189 35 ≤ 2400) : xF 172 [.ref 189, .int (nI k)] (xm z T R B) (.inr (some (.int (nI (B.1 189 35 - k)))), xm z T R (xsI (xsI B 189 14 0) 189 35 k)) := by
  have e : mIn k 0 (B.1 189 35) = 1 := by rw [mIn_p (by omega) (by omega) (by omega), if_pos (by omega)]
  have e35 : (xsI B 189 14 0).1 189 35 = B.1 189 35 := xsI_ne (by omega)
  refine xF_eq (xF_p (Nat.le_of_ble_eq_true rfl) ?_)
  refine xp_iload_n rfl rfl ?_
  refine xp_iconst (n := 0) rfl (by decide) ?_
  refine xp_aload_n rfl rfl ?_
  refine xp_gfi rfl rfl (by decide) (by decide) (by first | assumption | exact hL.t rfl) ?_
  refine xp_is rfl rfl rfl (Nat.le_of_ble_eq_true rfl) (by decide) (by decide) (by decide) (Nat.le_of_ble_eq_true rfl) rfl (xrcv0 (by decide) _ _) (m112 (by omega) (by omega) (by omega)) rfl ?_
  rw [e]
  refine xp_ifne 18 rfl (by decide) (by omega) (fun h9 => ?_) (fun h9 => ?_)
  · skip
    refine xp_aload_n rfl rfl ?_
    refine xp_iconst (n := 0) rfl (by decide) ?_
    refine xp_pfi rfl rfl (by decide) (by decide) (by decide) (by first | assumption | exact hL.t rfl) ?_
    refine xp_aload_n rfl rfl ?_
    refine xp_gfi rfl rfl (by decide) (by decide) (by first | assumption | exact hL.t rfl) ?_
    rw [e35]
    refine xp_iload_n rfl rfl ?_
    refine xp_isub rfl (by omega) ?_
    refine xp_istore_n rfl (by decide) ?_
    refine xp_aload_n rfl rfl ?_
    refine xp_iload_n rfl rfl ?_
    refine xp_pfi rfl rfl (by decide) (by decide) (by decide) (by first | assumption | exact hL.t rfl) ?_
    refine xp_iload_n rfl rfl ?_
    refine xp_ireturn rfl (by decide) (by decide) (by decide) ?_
    rfl
  · exfalso; omega
theorem m172a {z : Nat} {T : Nat → Option xT} {R : Nat → Nat → Option Nat} {B : xQ} {w k : Nat} (hL : xLay T R w) (hk : k < 2 ^ 32) (hq : ¬ k ≤ B.1 189 35) (hs : B.1 189 35 ≤ 2400) : xF 172 [.ref 189, .int (nI k)] (xm z T R B) (.inr (some (.int (nI 0))), xm z T R (xsI B 189 14 1)) := by
  have e : mIn k 0 (B.1 189 35) = 0 := by
    by_cases q : k < 2 ^ 31
    · rw [mIn_p q (by omega) (by omega), if_neg (by omega)]
    · exact mIn_n (by omega) hk (by omega)
  refine xF_eq (xF_p (Nat.le_of_ble_eq_true rfl) ?_)
  refine xp_iload_n rfl rfl ?_
  refine xp_iconst (n := 0) rfl (by decide) ?_
  refine xp_aload_n rfl rfl ?_
  refine xp_gfi rfl rfl (by decide) (by decide) (by first | assumption | exact hL.t rfl) ?_
  refine xp_is rfl rfl rfl (Nat.le_of_ble_eq_true rfl) (by decide) (by decide) (by decide) (Nat.le_of_ble_eq_true rfl) rfl (xrcv0 (by decide) _ _) (m112 (by omega) (by omega) (by omega)) rfl ?_
  rw [e]
  refine xp_ifne 18 rfl (by decide) (by omega) (fun h9 => ?_) (fun h9 => ?_)
  · exfalso; omega
  · skip
    refine xp_aload_n rfl rfl ?_
    refine xp_iconst (n := 1) rfl (by decide) ?_
    refine xp_iv rfl rfl (Nat.le_of_ble_eq_true rfl) (by decide) (by decide) (by decide) (Nat.le_of_ble_eq_true rfl) rfl (xrcv1 (by decide) (by first | assumption | exact hL.t rfl)) (m113 hL) rfl ?_
    refine xp_ireturn rfl (by decide) (by decide) (by decide) ?_
    rfl
theorem pub_cut (k : Nat) (hk : k < 2 ^ 32) : Pub 14 172 (mpO [(0, 1)]) [.int (nI k)] := by
  refine Pub.mk rfl rfl gC1 gM1 (fun z T R w n A hn hI => ?_)
  obtain ⟨hL, hr, hc, hT, hR, h3, h4⟩ := hI
  have h0 := hc.1
  have hs := hR.2.1.2.1
  by_cases hq : k ≤ A.1 99 1
  · have a1 : ∀ a j, a ≠ 99 → (xsI A 99 1 k).1 a j = A.1 a j := fun a j q => xsI_ne (Or.inl q)
    refine Or.inr ⟨_, _, ⟨_, Or.inl rfl⟩, c14 hL hq hs, hc.oth (fun a j q => a1 a j (by omega)) (fun _ _ _ => rfl), hT.oth hc.cnt hc.2.2.2.2.2 (fun a j q => a1 a j (by omega)), by rw [a1 11 3 (by omega)]; omega, by rw [a1 11 4 (by omega)]; omega, fun B hB => ?_⟩
    obtain ⟨i1, i2, i3, i4⟩ := hB.2.1
    have m := m172 (z := z) (B := B) (k := k) hL (by omega) (by omega)
    rw [i1] at m
    have b1 : ∀ a j, (a ≠ 189 ∨ (j ≠ 14 ∧ j ≠ 35)) → (xsI (xsI B 189 14 0) 189 35 k).1 a j = B.1 a j := fun a j q => by rw [xsI_ne (by omega), xsI_ne (by omega)]
    refine ⟨_, m, by rw [xsI_ne (by omega), xsI_eq], hB.img hc (fun a j _ q _ _ => a1 a j q) (fun _ _ _ => rfl) (fun a j q q2 q3 => by unfold relB at q; exact b1 a j (by omega)) (fun _ _ _ => rfl) ?_⟩
    unfold RelI
    rw [xsI_eq, xsI_eq, b1 _ _ (by omega), a1 102 2 (by omega)]
    refine ⟨rfl, by omega, i3, fun i hi => ?_⟩
    rw [b1 _ _ (by omega), a1 _ _ (by omega)]
    exact i4 i (by omega)
  · refine Or.inl ⟨0, by decide, c14a hL hk hq hs, fun B hB => ?_⟩
    have i1 := hB.2.1.1
    exact ⟨_, _, m172a hL hk (by rw [i1]; exact hq) (by omega), by rw [xsI_eq]; rfl, hB.thr hc⟩
theorem c12m {z : Nat} {T : Nat → Option xT} {R : Nat → Nat → Option Nat} {A : xQ} {w k : Nat} (hL : xLay T R w) (hk : k = 4294967295) : xF 12 [.ref 0, .int (nI k)] (xm z T R A) (.inr (some (.int (nI (A.1 99 1)))), xm z T R A) := by
  refine xF_eq (xF_p (Nat.le_of_ble_eq_true rfl) ?_)
  refine xp_iload_n rfl rfl ?_
  refine xp_iconst (n := 4294967295) rfl (by decide) ?_
  refine xp_icne 13 rfl (by decide) (by omega) (by omega) (fun h2 => ?_) (fun h2 => ?_)
  · exfalso; omega
  · skip
    refine xp_aload_n rfl rfl ?_
    refine xp_gfa rfl rfl (by decide) (by decide) (by first | assumption | exact hL.t rfl) (by first | assumption | exact hL.r rfl | exact hL.2.2.2.2.2) ?_
    refine xp_gfi rfl rfl (by decide) (by decide) (by first | assumption | exact hL.t rfl) ?_
    refine xp_ireturn rfl (by decide) (by decide) (by decide) ?_
    rfl
theorem c12 {z : Nat} {T : Nat → Option xT} {R : Nat → Nat → Option Nat} {A : xQ} {w k : Nat} (hL : xLay T R w) (hk : k < A.1 99 1) (hs : A.1 99 1 ≤ 2400) : xF 12 [.ref 0, .int (nI k)] (xm z T R A) (.inr (some (.int (nI (A.1 100 k)))), xm z T R A) := by
  refine xF_eq (xF_p (Nat.le_of_ble_eq_true rfl) ?_)
  refine xp_iload_n rfl rfl ?_
  refine xp_iconst (n := 4294967295) rfl (by decide) ?_
  refine xp_icne 13 rfl (by decide) (by omega) (by omega) (fun h2 => ?_) (fun h2 => ?_)
  · skip
    refine xp_iload_n rfl rfl ?_
    refine xp_iflt 28 rfl (by decide) (by omega) (fun h14 => ?_) (fun h14 => ?_)
    · exfalso; omega
    · skip
      refine xp_iload_n rfl rfl ?_
      refine xp_aload_n rfl rfl ?_
      refine xp_gfa rfl rfl (by decide) (by decide) (by first | assumption | exact hL.t rfl) (by first | assumption | exact hL.r rfl | exact hL.2.2.2.2.2) ?_
      refine xp_gfi rfl rfl (by decide) (by decide) (by first | assumption | exact hL.t rfl) ?_
      refine xp_iclt 36 rfl (by decide) (by omega) (by omega) (fun h25 => ?_) (fun h25 => ?_)
      · skip
        refine xp_aload_n rfl rfl ?_
        refine xp_gfa rfl rfl (by decide) (by decide) (by first | assumption | exact hL.t rfl) (by first | assumption | exact hL.r rfl | exact hL.2.2.2.2.2) ?_
        refine xp_gfa rfl rfl (by decide) (by decide) (by first | assumption | exact hL.t rfl) (by first | assumption | exact hL.r rfl | exact hL.2.2.2.2.2) ?_
        refine xp_iload_n rfl rfl ?_
        refine xp_iald rfl (by first | assumption | exact hL.t rfl) (by omega) (by omega) ?_
        refine xp_ireturn rfl (by decide) (by decide) (by decide) ?_
        rfl
      · exfalso; omega
  · exfalso; omega
theorem c12a {z : Nat} {T : Nat → Option xT} {R : Nat → Nat → Option Nat} {A : xQ} {w k : Nat} (hL : xLay T R w) (hk : k < 2 ^ 32) (hm : k ≠ 4294967295) (hq : ¬ k < A.1 99 1) (hs : A.1 99 1 ≤ 2400) : xF 12 [.ref 0, .int (nI k)] (xm z T R A) (.inl 2, xm (z + 1) T R A) := by
  refine xF_eq (xF_p (Nat.le_of_ble_eq_true rfl) ?_)
  refine xp_iload_n rfl rfl ?_
  refine xp_iconst (n := 4294967295) rfl (by decide) ?_
  refine xp_icne 13 rfl (by decide) (by omega) (by omega) (fun h2 => ?_) (fun h2 => ?_)
  · skip
    refine xp_iload_n rfl rfl ?_
    refine xp_iflt 28 rfl (by decide) (by omega) (fun h14 => ?_) (fun h14 => ?_)
    · skip
      refine xp_throw rfl rfl (Nat.le_of_ble_eq_true rfl) (by decide) (by decide) (by decide) ?_
      rfl
    · skip
      refine xp_iload_n rfl rfl ?_
      refine xp_aload_n rfl rfl ?_
      refine xp_gfa rfl rfl (by decide) (by decide) (by first | assumption | exact hL.t rfl) (by first | assumption | exact hL.r rfl | exact hL.2.2.2.2.2) ?_
      refine xp_gfi rfl rfl (by decide) (by decide) (by first | assumption | exact hL.t rfl) ?_
      refine xp_iclt 36 rfl (by decide) (by omega) (by omega) (fun h25 => ?_) (fun h25 => ?_)
      · exfalso; omega
      · skip
        refine xp_throw rfl rfl (Nat.le_of_ble_eq_true rfl) (by decide) (by decide) (by decide) ?_
        rfl
  · exfalso; omega
theorem in_img {k s : Nat} (hk : k < 2 ^ 32) (hs : s ≤ 2400) : mIn k 4294967295 ((s + 4294967295) % 2 ^ 32) = if k = 4294967295 ∨ k < s then 1 else 0 := by
  unfold mIn
  rw [sg_n (n := 4294967295) (by omega)]
  by_cases h0 : s = 0
  · subst h0
    rw [show (0 + 4294967295) % 2 ^ 32 = 4294967295 from rfl, sg_n (n := 4294967295) (by omega)]
    by_cases q : k < 2 ^ 31
    · rw [sg_p q, if_neg (by omega), if_neg (by omega)]
    · rw [sg_n (by omega)]
      by_cases q2 : k = 4294967295
      · rw [if_pos (by omega), if_pos (by omega)]
      · rw [if_neg (by omega), if_neg (by omega)]
  · rw [show (s + 4294967295) % 2 ^ 32 = s - 1 by omega, sg_p (n := s - 1) (by omega)]
    by_cases q : k < 2 ^ 31
    · rw [sg_p q]
      by_cases q2 : k < s
      · rw [if_pos (by omega), if_pos (by omega)]
      · rw [if_neg (by omega), if_neg (by omega)]
    · rw [sg_n (by omega)]
      by_cases q2 : k = 4294967295
      · rw [if_pos (by omega), if_pos (by omega)]
      · rw [if_neg (by omega), if_neg (by omega)]
theorem m170m {z : Nat} {T : Nat → Option xT} {R : Nat → Nat → Option Nat} {B : xQ} {w k : Nat} (hL : xLay T R w) (hk : k = 4294967295) (hs : B.1 189 35 ≤ 2400) : xF 170 [.ref 189, .int (nI k)] (xm z T R B) (.inr (some (.int (nI (B.1 189 35)))), xm z T R (xsI B 189 14 0)) := by
  have e := in_img (k := k) (s := B.1 189 35) (by omega) hs
  rw [if_pos (Or.inl hk)] at e
  have e35 : (xsI B 189 14 0).1 189 35 = B.1 189 35 := xsI_ne (by omega)
  refine xF_eq (xF_p (Nat.le_of_ble_eq_true rfl) ?_)
  refine xp_aload_n rfl rfl ?_
  refine xp_iload_n rfl rfl ?_
  refine xp_iconst (n := 4294967295) rfl (by decide) ?_
  refine xp_aload_n rfl rfl ?_
  refine xp_gfi rfl rfl (by decide) (by decide) (by first | assumption | exact hL.t rfl) ?_
  refine xp_iconst (n := 1) rfl (by decide) ?_
  refine xp_isubR rfl ?_
  rw [nI_subm2]
  refine xp_is rfl rfl rfl (Nat.le_of_ble_eq_true rfl) (by decide) (by decide) (by decide) (Nat.le_of_ble_eq_true rfl) rfl (xrcv0 (by decide) _ _) (m112 (by omega) (by omega) (by omega)) rfl ?_
  rw [e]
  refine xp_ifeq 19 rfl (by decide) (by omega) (fun h12 => ?_) (fun h12 => ?_)
  · exfalso; omega
  · skip
    refine xp_iconst (n := 0) rfl (by decide) ?_
    refine xp_goto 20 rfl (by decide) ?_
    refine xp_pfi rfl rfl (by decide) (by decide) (by decide) (by first | assumption | exact hL.t rfl) ?_
    refine xp_aload_n rfl rfl ?_
    refine xp_gfi rfl rfl (by decide) (by decide) (by first | assumption | exact hL.t rfl) ?_
    rw [xsI_eq]
    refine xp_ifle 34 rfl (by decide) (by omega) (fun h27 => ?_) (fun h27 => ?_)
    · skip
      refine xp_iload_n rfl rfl ?_
      refine xp_ifge 45 rfl (by decide) (by omega) (fun h35 => ?_) (fun h35 => ?_)
      · exfalso; omega
      · skip
        refine xp_aload_n rfl rfl ?_
        refine xp_gfi rfl rfl (by decide) (by decide) (by first | assumption | exact hL.t rfl) ?_
        rw [e35]
        refine xp_goto 51 rfl (by decide) ?_
        refine xp_ireturn rfl (by decide) (by decide) (by decide) ?_
        rfl
    · exfalso; omega
theorem m170 {z : Nat} {T : Nat → Option xT} {R : Nat → Nat → Option Nat} {B : xQ} {w k : Nat} (hL : xLay T R w) (hk : k < B.1 189 35) (hs : B.1 189 35 ≤ 2400) : xF 170 [.ref 189, .int (nI k)] (xm z T R B) (.inr (some (.int (nI (B.1 214 k)))), xm z T R (xsI B 189 14 0)) := by
  have e := in_img (k := k) (s := B.1 189 35) (by omega) hs
  rw [if_pos (Or.inr hk)] at e
  have e214 : (xsI B 189 14 0).1 214 k = B.1 214 k := xsI_ne (by omega)
  refine xF_eq (xF_p (Nat.le_of_ble_eq_true rfl) ?_)
  refine xp_aload_n rfl rfl ?_
  refine xp_iload_n rfl rfl ?_
  refine xp_iconst (n := 4294967295) rfl (by decide) ?_
  refine xp_aload_n rfl rfl ?_
  refine xp_gfi rfl rfl (by decide) (by decide) (by first | assumption | exact hL.t rfl) ?_
  refine xp_iconst (n := 1) rfl (by decide) ?_
  refine xp_isubR rfl ?_
  rw [nI_subm2]
  refine xp_is rfl rfl rfl (Nat.le_of_ble_eq_true rfl) (by decide) (by decide) (by decide) (Nat.le_of_ble_eq_true rfl) rfl (xrcv0 (by decide) _ _) (m112 (by omega) (by omega) (by omega)) rfl ?_
  rw [e]
  refine xp_ifeq 19 rfl (by decide) (by omega) (fun h12 => ?_) (fun h12 => ?_)
  · exfalso; omega
  · skip
    refine xp_iconst (n := 0) rfl (by decide) ?_
    refine xp_goto 20 rfl (by decide) ?_
    refine xp_pfi rfl rfl (by decide) (by decide) (by decide) (by first | assumption | exact hL.t rfl) ?_
    refine xp_aload_n rfl rfl ?_
    refine xp_gfi rfl rfl (by decide) (by decide) (by first | assumption | exact hL.t rfl) ?_
    rw [xsI_eq]
    refine xp_ifle 34 rfl (by decide) (by omega) (fun h27 => ?_) (fun h27 => ?_)
    · skip
      refine xp_iload_n rfl rfl ?_
      refine xp_ifge 45 rfl (by decide) (by omega) (fun h35 => ?_) (fun h35 => ?_)
      · skip
        refine xp_aload_n rfl rfl ?_
        refine xp_gfa rfl rfl (by decide) (by decide) (by first | assumption | exact hL.t rfl) (by first | assumption | exact hL.r rfl | exact hL.2.2.2.2.2) ?_
        refine xp_iload_n rfl rfl ?_
        refine xp_iald rfl (by first | assumption | exact hL.t rfl) (by omega) (by omega) ?_
        rw [e214]
        refine xp_ireturn rfl (by decide) (by decide) (by decide) ?_
        rfl
      · exfalso; omega
    · exfalso; omega
theorem m170a {z : Nat} {T : Nat → Option xT} {R : Nat → Nat → Option Nat} {B : xQ} {w k : Nat} (hL : xLay T R w) (hk : k < 2 ^ 32) (hm : k ≠ 4294967295) (hq : ¬ k < B.1 189 35) (hs : B.1 189 35 ≤ 2400) : xF 170 [.ref 189, .int (nI k)] (xm z T R B) (.inr (some (.int (nI 0))), xm z T R (xsI B 189 14 1)) := by
  have e := in_img (k := k) (s := B.1 189 35) hk hs
  rw [if_neg (by omega)] at e
  refine xF_eq (xF_p (Nat.le_of_ble_eq_true rfl) ?_)
  refine xp_aload_n rfl rfl ?_
  refine xp_iload_n rfl rfl ?_
  refine xp_iconst (n := 4294967295) rfl (by decide) ?_
  refine xp_aload_n rfl rfl ?_
  refine xp_gfi rfl rfl (by decide) (by decide) (by first | assumption | exact hL.t rfl) ?_
  refine xp_iconst (n := 1) rfl (by decide) ?_
  refine xp_isubR rfl ?_
  rw [nI_subm2]
  refine xp_is rfl rfl rfl (Nat.le_of_ble_eq_true rfl) (by decide) (by decide) (by decide) (Nat.le_of_ble_eq_true rfl) rfl (xrcv0 (by decide) _ _) (m112 (by omega) (by omega) (by omega)) rfl ?_
  rw [e]
  refine xp_ifeq 19 rfl (by decide) (by omega) (fun h12 => ?_) (fun h12 => ?_)
  · skip
    refine xp_iconst (n := 1) rfl (by decide) ?_
    refine xp_pfi rfl rfl (by decide) (by decide) (by decide) (by first | assumption | exact hL.t rfl) ?_
    refine xp_aload_n rfl rfl ?_
    refine xp_gfi rfl rfl (by decide) (by decide) (by first | assumption | exact hL.t rfl) ?_
    rw [xsI_eq]
    refine xp_ifle 34 rfl (by decide) (by omega) (fun h27 => ?_) (fun h27 => ?_)
    · exfalso; omega
    · skip
      refine xp_iconst (n := 0) rfl (by decide) ?_
      refine xp_goto 51 rfl (by decide) ?_
      refine xp_ireturn rfl (by decide) (by decide) (by decide) ?_
      rfl
  · exfalso; omega
theorem pub_image (k : Nat) (hk : k < 2 ^ 32) : Pub 12 170 (mpO [(2, 1)]) [.int (nI k)] := by
  refine Pub.mk rfl rfl gC1 gM1 (fun z T R w n A hn hI => ?_)
  obtain ⟨hL, hr, hc, hT, hR, h3, h4⟩ := hI
  have hs := hR.2.1.2.1
  by_cases hm : k = 4294967295
  · refine Or.inr ⟨_, A, ⟨_, Or.inl rfl⟩, c12m hL hm, hc, hT, by omega, by omega, fun B hB => ?_⟩
    have i1 := hB.2.1.1
    have m := m170m (z := z) (B := B) hL hm (by omega)
    rw [i1] at m
    exact ⟨_, m, by rw [xsI_eq], hB.thr hc⟩
  · by_cases hq : k < A.1 99 1
    · refine Or.inr ⟨_, A, ⟨_, Or.inl rfl⟩, c12 hL hq hs, hc, hT, by omega, by omega, fun B hB => ?_⟩
      obtain ⟨i1, i2, i3, i4⟩ := hB.2.1
      have m := m170 (z := z) (B := B) (k := k) hL (by omega) (by omega)
      rw [(i4 k hq).1] at m
      exact ⟨_, m, by rw [xsI_eq], hB.thr hc⟩
    · refine Or.inl ⟨2, by decide, c12a hL hk hm hq hs, fun B hB => ?_⟩
      have i1 := hB.2.1.1
      exact ⟨_, _, m170a hL hk hm (by rw [i1]; exact hq) (by omega), by rw [xsI_eq]; rfl, hB.thr hc⟩
