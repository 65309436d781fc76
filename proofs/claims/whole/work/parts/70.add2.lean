-- add, value
theorem pub_add (f op a b : Nat) (hf : f < 2 ^ 32) (hop : op < 2 ^ 32) (ha : a < 2 ^ 32) (hb : b < 2 ^ 32) : Pub 2 117 (mpO [(0, 1), (1, 2)]) [.int (nI f), .int (nI op), .int (nI a), .int (nI b)] := by
  refine Pub.mk rfl rfl gC4 gM4 (fun z T R w n A hn hI => ?_)
  obtain ⟨hL, hr, hc, hT, hR, h3, h4⟩ := hI
  have h0 := hc.1
  by_cases hq : f < 6 ∧ op ≤ 27 ∧ xFit (xTA op) a ∧ xFit (xTB op) b
  · obtain ⟨o1, o2, o3, o4⟩ := hq
    obtain ⟨p1, p2, p3, p4, p5⟩ := hc.2.2.1 f o1
    have hI := IOk_add o2 o3 o4
    by_cases h7 : A.1 3 f = 30
    · refine Or.inl ⟨1, by decide, c2b hL o1 o2 ha hb o3 o4 h7, fun B hB => ⟨_, _, m117b hL o1 o2 ha hb o3 o4 (by rw [(hB.1 f o1).2.1]; exact h7), by rw [xsI_eq]; rfl, hB.thr hc⟩⟩
    · have hcl := c2 (z := z) (A := A) hL o1 o2 ha hb o3 o4 (by omega)
      have hm := fun (B : xQ) (hx : B.1 191 f < 30) => m117 (z := z) (B := B) hL o1 o2 ha hb o3 o4 hx
      generalize xKp (xTA op) a = ka at hcl hm hI
      generalize xKp (xTB op) b = kb at hcl hm hI
      have a1 : ∀ b j, (b ≠ 4 ∧ b ≠ 5 ∧ b ≠ 6) ∨ j ≠ f * 30 + A.1 3 f → (b ≠ 3 ∨ j ≠ f) → (aApp A f op ka kb).1 b j = A.1 b j := fun b j q q2 => by unfold aApp; rw [xsI_ne q2, xsI_ne (by omega), xsI_ne (by omega), xsI_ne (by omega)]
      have a7 : (aApp A f op ka kb).1 3 f = A.1 3 f + 1 := xsI_eq
      have a8 : (aApp A f op ka kb).1 4 (f * 30 + A.1 3 f) = op := by unfold aApp; rw [xsI_ne (by omega), xsI_ne (by omega), xsI_ne (by omega), xsI_eq]
      have a9 : (aApp A f op ka kb).1 5 (f * 30 + A.1 3 f) = ka := by unfold aApp; rw [xsI_ne (by omega), xsI_ne (by omega), xsI_eq]
      have a10 : (aApp A f op ka kb).1 6 (f * 30 + A.1 3 f) = kb := by unfold aApp; rw [xsI_ne (by omega), xsI_eq]
      have hj : (aApp A f op ka kb).2 = A.2 := rfl
      generalize aApp A f op ka kb = A1 at a1 a7 a8 a9 a10 hcl hj
      have hP : POk A1 := fun g hg => by
        obtain ⟨q1, q2, q3, q4, q5⟩ := hc.2.2.1 g hg
        rw [a1 2 g (by omega) (by omega), a1 7 g (by omega) (by omega)]
        by_cases e : g = f
        · subst e
          rw [a7]
          refine ⟨q1, by omega, q3, fun j hj => ?_, fun j hj => ?_⟩
          · by_cases ej : j = A.1 3 g
            · rw [ej, a8, a9, a10]; exact hI
            · rw [a1 4 _ (by omega) (by omega), a1 5 _ (by omega) (by omega), a1 6 _ (by omega) (by omega)]; exact q4 j (by omega)
          · rw [a1 8 _ (by omega) (by omega), a1 9 _ (by omega) (by omega), a1 10 _ (by omega) (by omega)]; exact q5 j hj
        · rw [a1 3 g (by omega) (by omega)]
          refine ⟨q1, q2, q3, fun j hj => ?_, fun j hj => ?_⟩
          · rw [a1 4 _ (by omega) (by omega), a1 5 _ (by omega) (by omega), a1 6 _ (by omega) (by omega)]; exact q4 j hj
          · rw [a1 8 _ (by omega) (by omega), a1 9 _ (by omega) (by omega), a1 10 _ (by omega) (by omega)]; exact q5 j hj
      refine Or.inr ⟨_, A1, ⟨_, Or.inl rfl⟩, hcl, hc.prog (fun b j _ _ => a1 b j (by omega) (by omega)) (fun b j _ => by rw [hj]) hP, hT.oth hc.cnt hc.2.2.2.2.2 (fun b j q => a1 b j (by omega) (by omega)), by rw [a1 11 3 (by omega) (by omega)]; omega, by rw [a1 11 4 (by omega) (by omega)]; omega, fun B hB => ?_⟩
      have e191 := (hB.1 f o1).2.1
      have m := hm B (by omega)
      have b1 : ∀ b j, (b ≠ 193 ∧ b ≠ 194 ∧ b ≠ 195) ∨ j ≠ 30 * f + B.1 191 f → (b ≠ 191 ∨ j ≠ f) → (b ≠ 189 ∨ j ≠ 14) → (mApp B f op ka kb).1 b j = B.1 b j := fun b j q q2 q3 => by unfold mApp; rw [xsI_ne q2, xsI_ne (by omega), xsI_ne (by omega), xsI_ne (by omega), xsI_ne q3]
      have b14 : (mApp B f op ka kb).1 189 14 = 0 := by unfold mApp; rw [xsI_ne (by omega), xsI_ne (by omega), xsI_ne (by omega), xsI_ne (by omega), xsI_eq]
      have b7 : (mApp B f op ka kb).1 191 f = B.1 191 f + 1 := xsI_eq
      have b8 : (mApp B f op ka kb).1 193 (30 * f + B.1 191 f) = op := by unfold mApp; rw [xsI_ne (by omega), xsI_ne (by omega), xsI_ne (by omega), xsI_eq]
      have b9 : (mApp B f op ka kb).1 194 (30 * f + B.1 191 f) = ka := by unfold mApp; rw [xsI_ne (by omega), xsI_ne (by omega), xsI_eq]
      have b10 : (mApp B f op ka kb).1 195 (30 * f + B.1 191 f) = kb := by unfold mApp; rw [xsI_ne (by omega), xsI_eq]
      have bj : (mApp B f op ka kb).2 = B.2 := rfl
      rw [e191] at m b1 b7 b8 b9 b10
      generalize mApp B f op ka kb = B1 at m b1 b14 b7 b8 b9 b10 bj
      refine ⟨B1, m, by rw [b14], hB.prog hc (fun b j _ _ => a1 b j (by omega) (by omega)) (fun b j _ => by rw [hj]) (fun b j q q2 => by unfold relB at q; exact b1 b j (by omega) (by omega) (by omega)) (fun b j _ => by rw [bj]) (fun g hg => ?_)⟩
      obtain ⟨q1, q2, q3, q4, q5⟩ := hB.1 g hg
      obtain ⟨_, c3, _, _, _⟩ := hc.2.2.1 g hg
      rw [a1 2 g (by omega) (by omega), a1 7 g (by omega) (by omega), b1 190 g (by omega) (by omega) (by omega), b1 192 g (by omega) (by omega) (by omega)]
      by_cases e : g = f
      · subst e
        rw [a7, b7]
        refine ⟨q1, rfl, q3, fun j hj => ?_, fun j hj => ?_⟩
        · by_cases ej : j = A.1 3 g
          · rw [ej, a8, a9, a10, b8, b9, b10]; exact ⟨rfl, rfl, rfl⟩
          · rw [a1 4 _ (by omega) (by omega), a1 5 _ (by omega) (by omega), a1 6 _ (by omega) (by omega), b1 193 _ (by omega) (by omega) (by omega), b1 194 _ (by omega) (by omega) (by omega), b1 195 _ (by omega) (by omega) (by omega)]; exact q4 j (by omega)
        · rw [a1 8 _ (by omega) (by omega), a1 9 _ (by omega) (by omega), a1 10 _ (by omega) (by omega), b1 196 _ (by omega) (by omega) (by omega), b1 197 _ (by omega) (by omega) (by omega), b1 198 _ (by omega) (by omega) (by omega)]; exact q5 j hj
      · rw [a1 3 g (by omega) (by omega), b1 191 g (by omega) (by omega) (by omega)]
        refine ⟨q1, q2, q3, fun j hj => ?_, fun j hj => ?_⟩
        · rw [a1 4 _ (by omega) (by omega), a1 5 _ (by omega) (by omega), a1 6 _ (by omega) (by omega), b1 193 _ (by omega) (by omega) (by omega), b1 194 _ (by omega) (by omega) (by omega), b1 195 _ (by omega) (by omega) (by omega)]; exact q4 j hj
        · rw [a1 8 _ (by omega) (by omega), a1 9 _ (by omega) (by omega), a1 10 _ (by omega) (by omega), b1 196 _ (by omega) (by omega) (by omega), b1 197 _ (by omega) (by omega) (by omega), b1 198 _ (by omega) (by omega) (by omega)]; exact q5 j hj
  · exact Or.inl ⟨0, by decide, c2a hL hf hop ha hb hq, fun B hB => ⟨_, _, m117a hL hf hop ha hb hq, by rw [xsI_eq]; rfl, hB.thr hc⟩⟩
theorem c7 {z : Nat} {T : Nat → Option xT} {R : Nat → Nat → Option Nat} {A : xQ} {w t : Nat} (hL : xLay T R w) (hc : A.1 w 2 ≤ 3) (ht : t < A.1 w 2) (hst : A.1 (w + 11 + 25 * t) 2 = 1) (hk : A.1 (w + 11 + 25 * t + 3) 0 = 1 ∨ A.1 (w + 11 + 25 * t + 3) 0 = 2) : xF 7 [.ref 0, .int (nI t)] (xm z T R A) (.inr (some (.long (A.2 (w + 11 + 25 * t + 4) 0))), xm z T R A) := by
  have hW := hL.w hL.1
  have hw1 := hW.1
  have hw2 := hW.2.1
  have hw4 := hW.2.2.2.1
  obtain ⟨r1, hS⟩ := hW.2.2.2.2.2 t (by omega)
  have s1 := hS.1
  have s4 := hS.2.2.2.1
  have s5 := hS.2.2.2.2.1
  obtain ⟨s51, s52, s53, s54, s55⟩ := id s5
  refine xF_eq (xF_p (Nat.le_of_ble_eq_true rfl) ?_)
  refine xp_iload_n rfl rfl ?_
  refine xp_iflt 18 rfl (by decide) (by omega) (fun h1 => ?_) (fun h1 => ?_)
  · exfalso; omega
  · skip
    refine xp_iload_n rfl rfl ?_
    refine xp_aload_n rfl rfl ?_
    refine xp_gfa rfl rfl (by decide) (by decide) (by first | assumption | exact hL.t rfl) (by first | assumption | exact hL.r rfl | exact hL.2.2.2.2.2) ?_
    refine xp_gfa rfl rfl (by decide) (by decide) (by first | assumption | exact hL.t rfl) (by first | assumption | exact hL.r rfl | exact hL.2.2.2.2.2) ?_
    refine xp_gfi rfl rfl (by decide) (by decide) (by first | assumption | exact hL.t rfl) ?_
    refine xp_iclt 26 rfl (by decide) (by omega) (by omega) (fun h15 => ?_) (fun h15 => ?_)
    · skip
      refine xp_aload_n rfl rfl ?_
      refine xp_gfa rfl rfl (by decide) (by decide) (by first | assumption | exact hL.t rfl) (by first | assumption | exact hL.r rfl | exact hL.2.2.2.2.2) ?_
      refine xp_gfa rfl rfl (by decide) (by decide) (by first | assumption | exact hL.t rfl) (by first | assumption | exact hL.r rfl | exact hL.2.2.2.2.2) ?_
      refine xp_gfa rfl rfl (by decide) (by decide) (by first | assumption | exact hL.t rfl) (by first | assumption | exact hL.r rfl | exact hL.2.2.2.2.2) ?_
      refine xp_iload_n rfl rfl ?_
      refine xp_aald rfl (by first | assumption | exact hL.t rfl) (by decide) (by decide) (by omega) (by omega) (by first | assumption | exact hL.r rfl | exact hL.2.2.2.2.2) ?_
      refine xp_astore_n rfl (by decide) ?_
      refine xp_aload_n rfl rfl ?_
      refine xp_gfi rfl rfl (by decide) (by decide) (by first | assumption | exact hL.t rfl) ?_
      refine xp_iconst (n := 1) rfl (by decide) ?_
      refine xp_iceq 55 rfl (by decide) (by omega) (by omega) (fun h44 => ?_) (fun h44 => ?_)
      · skip
        refine xp_aload_n rfl rfl ?_
        refine xp_gfa rfl rfl (by decide) (by decide) (by first | assumption | exact hL.t rfl) (by first | assumption | exact hL.r rfl | exact hL.2.2.2.2.2) ?_
        refine xp_iconst (n := 0) rfl (by decide) ?_
        refine xp_iv rfl rfl (Nat.le_of_ble_eq_true rfl) (by decide) (by decide) (by decide) (Nat.le_of_ble_eq_true rfl) rfl (xrcv1 (by decide) (by first | assumption | exact hL.t rfl)) (c26t s5 (by omega) (by omega) hk) rfl ?_
        refine xp_ifne 74 rfl (by decide) (by omega) (fun h63 => ?_) (fun h63 => ?_)
        · skip
          refine xp_aload_n rfl rfl ?_
          refine xp_gfa rfl rfl (by decide) (by decide) (by first | assumption | exact hL.t rfl) (by first | assumption | exact hL.r rfl | exact hL.2.2.2.2.2) ?_
          refine xp_gfa rfl rfl (by decide) (by decide) (by first | assumption | exact hL.t rfl) (by first | assumption | exact hL.r rfl | exact hL.2.2.2.2.2) ?_
          refine xp_iconst (n := 0) rfl (by decide) ?_
          refine xp_lald rfl (by first | assumption | exact hL.t rfl) (by omega) (by omega) ?_
          refine xp_lreturn rfl (by decide) (by decide) (by decide) ?_
          rfl
        · exfalso; omega
      · exfalso; omega
    · exfalso; omega
theorem c7c {z : Nat} {T : Nat → Option xT} {R : Nat → Nat → Option Nat} {A : xQ} {w t : Nat} (hL : xLay T R w) (hc : A.1 w 2 ≤ 3) (ht : t < A.1 w 2) (hst : A.1 (w + 11 + 25 * t) 2 = 1) (hk4 : A.1 (w + 11 + 25 * t + 3) 0 ≤ 4) (hk : ¬ (A.1 (w + 11 + 25 * t + 3) 0 = 1 ∨ A.1 (w + 11 + 25 * t + 3) 0 = 2)) : xF 7 [.ref 0, .int (nI t)] (xm z T R A) (.inl 3, xm (z + 1) T R A) := by
  have hW := hL.w hL.1
  have hw1 := hW.1
  have hw2 := hW.2.1
  have hw4 := hW.2.2.2.1
  obtain ⟨r1, hS⟩ := hW.2.2.2.2.2 t (by omega)
  have s1 := hS.1
  have s4 := hS.2.2.2.1
  have s5 := hS.2.2.2.2.1
  obtain ⟨s51, s52, s53, s54, s55⟩ := id s5
  refine xF_eq (xF_p (Nat.le_of_ble_eq_true rfl) ?_)
  refine xp_iload_n rfl rfl ?_
  refine xp_iflt 18 rfl (by decide) (by omega) (fun h1 => ?_) (fun h1 => ?_)
  · exfalso; omega
  · skip
    refine xp_iload_n rfl rfl ?_
    refine xp_aload_n rfl rfl ?_
    refine xp_gfa rfl rfl (by decide) (by decide) (by first | assumption | exact hL.t rfl) (by first | assumption | exact hL.r rfl | exact hL.2.2.2.2.2) ?_
    refine xp_gfa rfl rfl (by decide) (by decide) (by first | assumption | exact hL.t rfl) (by first | assumption | exact hL.r rfl | exact hL.2.2.2.2.2) ?_
    refine xp_gfi rfl rfl (by decide) (by decide) (by first | assumption | exact hL.t rfl) ?_
    refine xp_iclt 26 rfl (by decide) (by omega) (by omega) (fun h15 => ?_) (fun h15 => ?_)
    · skip
      refine xp_aload_n rfl rfl ?_
      refine xp_gfa rfl rfl (by decide) (by decide) (by first | assumption | exact hL.t rfl) (by first | assumption | exact hL.r rfl | exact hL.2.2.2.2.2) ?_
      refine xp_gfa rfl rfl (by decide) (by decide) (by first | assumption | exact hL.t rfl) (by first | assumption | exact hL.r rfl | exact hL.2.2.2.2.2) ?_
      refine xp_gfa rfl rfl (by decide) (by decide) (by first | assumption | exact hL.t rfl) (by first | assumption | exact hL.r rfl | exact hL.2.2.2.2.2) ?_
      refine xp_iload_n rfl rfl ?_
      refine xp_aald rfl (by first | assumption | exact hL.t rfl) (by decide) (by decide) (by omega) (by omega) (by first | assumption | exact hL.r rfl | exact hL.2.2.2.2.2) ?_
      refine xp_astore_n rfl (by decide) ?_
      refine xp_aload_n rfl rfl ?_
      refine xp_gfi rfl rfl (by decide) (by decide) (by first | assumption | exact hL.t rfl) ?_
      refine xp_iconst (n := 1) rfl (by decide) ?_
      refine xp_iceq 55 rfl (by decide) (by omega) (by omega) (fun h44 => ?_) (fun h44 => ?_)
      · skip
        refine xp_aload_n rfl rfl ?_
        refine xp_gfa rfl rfl (by decide) (by decide) (by first | assumption | exact hL.t rfl) (by first | assumption | exact hL.r rfl | exact hL.2.2.2.2.2) ?_
        refine xp_iconst (n := 0) rfl (by decide) ?_
        refine xp_iv rfl rfl (Nat.le_of_ble_eq_true rfl) (by decide) (by decide) (by decide) (Nat.le_of_ble_eq_true rfl) rfl (xrcv1 (by decide) (by first | assumption | exact hL.t rfl)) (c26f s5 (by omega) (by omega) hk4 hk) rfl ?_
        refine xp_ifne 74 rfl (by decide) (by omega) (fun h63 => ?_) (fun h63 => ?_)
        · exfalso; omega
        · skip
          refine xp_throw rfl rfl (Nat.le_of_ble_eq_true rfl) (by decide) (by decide) (by decide) ?_
          rfl
      · exfalso; omega
    · exfalso; omega
theorem c7b {z : Nat} {T : Nat → Option xT} {R : Nat → Nat → Option Nat} {A : xQ} {w t : Nat} (hL : xLay T R w) (hc : A.1 w 2 ≤ 3) (ht : t < A.1 w 2) (hst : A.1 (w + 11 + 25 * t) 2 ≠ 1) (hs2 : A.1 (w + 11 + 25 * t) 2 ≤ 2) : xF 7 [.ref 0, .int (nI t)] (xm z T R A) (.inl 1, xm (z + 1) T R A) := by
  have hW := hL.w hL.1
  have hw1 := hW.1
  have hw2 := hW.2.1
  have hw4 := hW.2.2.2.1
  obtain ⟨r1, hS⟩ := hW.2.2.2.2.2 t (by omega)
  have s1 := hS.1
  have s4 := hS.2.2.2.1
  have s5 := hS.2.2.2.2.1
  obtain ⟨s51, s52, s53, s54, s55⟩ := id s5
  refine xF_eq (xF_p (Nat.le_of_ble_eq_true rfl) ?_)
  refine xp_iload_n rfl rfl ?_
  refine xp_iflt 18 rfl (by decide) (by omega) (fun h1 => ?_) (fun h1 => ?_)
  · exfalso; omega
  · skip
    refine xp_iload_n rfl rfl ?_
    refine xp_aload_n rfl rfl ?_
    refine xp_gfa rfl rfl (by decide) (by decide) (by first | assumption | exact hL.t rfl) (by first | assumption | exact hL.r rfl | exact hL.2.2.2.2.2) ?_
    refine xp_gfa rfl rfl (by decide) (by decide) (by first | assumption | exact hL.t rfl) (by first | assumption | exact hL.r rfl | exact hL.2.2.2.2.2) ?_
    refine xp_gfi rfl rfl (by decide) (by decide) (by first | assumption | exact hL.t rfl) ?_
    refine xp_iclt 26 rfl (by decide) (by omega) (by omega) (fun h15 => ?_) (fun h15 => ?_)
    · skip
      refine xp_aload_n rfl rfl ?_
      refine xp_gfa rfl rfl (by decide) (by decide) (by first | assumption | exact hL.t rfl) (by first | assumption | exact hL.r rfl | exact hL.2.2.2.2.2) ?_
      refine xp_gfa rfl rfl (by decide) (by decide) (by first | assumption | exact hL.t rfl) (by first | assumption | exact hL.r rfl | exact hL.2.2.2.2.2) ?_
      refine xp_gfa rfl rfl (by decide) (by decide) (by first | assumption | exact hL.t rfl) (by first | assumption | exact hL.r rfl | exact hL.2.2.2.2.2) ?_
      refine xp_iload_n rfl rfl ?_
      refine xp_aald rfl (by first | assumption | exact hL.t rfl) (by decide) (by decide) (by omega) (by omega) (by first | assumption | exact hL.r rfl | exact hL.2.2.2.2.2) ?_
      refine xp_astore_n rfl (by decide) ?_
      refine xp_aload_n rfl rfl ?_
      refine xp_gfi rfl rfl (by decide) (by decide) (by first | assumption | exact hL.t rfl) ?_
      refine xp_iconst (n := 1) rfl (by decide) ?_
      refine xp_iceq 55 rfl (by decide) (by omega) (by omega) (fun h44 => ?_) (fun h44 => ?_)
      · exact absurd h44 hst
      · skip
        refine xp_throw rfl rfl (Nat.le_of_ble_eq_true rfl) (by decide) (by decide) (by decide) ?_
        rfl
    · exfalso; omega
theorem c7a {z : Nat} {T : Nat → Option xT} {R : Nat → Nat → Option Nat} {A : xQ} {w t : Nat} (hL : xLay T R w) (hc : A.1 w 2 ≤ 3) (ht : t < 2 ^ 32) (hq : ¬ t < A.1 w 2) : xF 7 [.ref 0, .int (nI t)] (xm z T R A) (.inl 2, xm (z + 1) T R A) := by
  have hW := hL.w hL.1
  have hw1 := hW.1
  refine xF_eq (xF_p (Nat.le_of_ble_eq_true rfl) ?_)
  refine xp_iload_n rfl rfl ?_
  refine xp_iflt 18 rfl (by decide) (by omega) (fun h1 => ?_) (fun h1 => ?_)
  · skip
    refine xp_throw rfl rfl (Nat.le_of_ble_eq_true rfl) (by decide) (by decide) (by decide) ?_
    rfl
  · skip
    refine xp_iload_n rfl rfl ?_
    refine xp_aload_n rfl rfl ?_
    refine xp_gfa rfl rfl (by decide) (by decide) (by first | assumption | exact hL.t rfl) (by first | assumption | exact hL.r rfl | exact hL.2.2.2.2.2) ?_
    refine xp_gfa rfl rfl (by decide) (by decide) (by first | assumption | exact hL.t rfl) (by first | assumption | exact hL.r rfl | exact hL.2.2.2.2.2) ?_
    refine xp_gfi rfl rfl (by decide) (by decide) (by first | assumption | exact hL.t rfl) ?_
    refine xp_iclt 26 rfl (by decide) (by omega) (by omega) (fun h15 => ?_) (fun h15 => ?_)
    · exfalso; omega
    · skip
      refine xp_throw rfl rfl (Nat.le_of_ble_eq_true rfl) (by decide) (by decide) (by decide) ?_
      rfl
theorem m150 {z : Nat} {T : Nat → Option xT} {R : Nat → Nat → Option Nat} {B : xQ} {w t : Nat} (hL : xLay T R w) (hn : B.1 189 16 = 1) (h9 : B.1 189 9 ≤ 3) (ht : t < B.1 189 9) (hst : B.1 199 t = 1) (hk : B.1 206 (150 + t) = 1 ∨ B.1 206 (150 + t) = 2) : xF 150 [.ref 189, .int (nI t)] (xm z T R B) (.inr (some (.long (B.2 207 (150 + t)))), xm z T R (xsI B 189 14 0)) := by
  have e : mIn t 0 (B.1 189 9 - 1) = 1 := by rw [mIn_any (by omega) (by omega) (by omega), if_pos (by omega)]
  have en : mNum (B.1 206 (150 + t)) = 1 := if_pos hk
  refine xF_eq (xF_p (Nat.le_of_ble_eq_true rfl) ?_)
  refine xp_aload_n rfl rfl ?_
  refine xp_aload_n rfl rfl ?_
  refine xp_gfi rfl rfl (by decide) (by decide) (by first | assumption | exact hL.t rfl) ?_
  rw [hn]
  refine xp_ifeq 22 rfl (by decide) (by omega) (fun h5 => ?_) (fun h5 => ?_)
  · exfalso; omega
  · skip
    refine xp_iload_n rfl rfl ?_
    refine xp_iconst (n := 0) rfl (by decide) ?_
    refine xp_aload_n rfl rfl ?_
    refine xp_gfi rfl rfl (by decide) (by decide) (by first | assumption | exact hL.t rfl) ?_
    refine xp_iconst (n := 1) rfl (by decide) ?_
    refine xp_isub rfl (by omega) ?_
    refine xp_is rfl rfl rfl (Nat.le_of_ble_eq_true rfl) (by decide) (by decide) (by decide) (Nat.le_of_ble_eq_true rfl) rfl (xrcv0 (by decide) _ _) (m112 (by omega) (by omega) (by omega)) rfl ?_
    rw [e]
    refine xp_ifne 26 rfl (by decide) (by omega) (fun h19 => ?_) (fun h19 => ?_)
    · skip
      refine xp_aload_n rfl rfl ?_
      refine xp_gfa rfl rfl (by decide) (by decide) (by first | assumption | exact hL.t rfl) (by first | assumption | exact hL.r rfl | exact hL.2.2.2.2.2) ?_
      refine xp_iload_n rfl rfl ?_
      refine xp_iald rfl (by first | assumption | exact hL.t rfl) (by omega) (by omega) ?_
      refine xp_iconst (n := 1) rfl (by decide) ?_
      refine xp_iceq 40 rfl (by decide) (by omega) (by omega) (fun h33 => ?_) (fun h33 => ?_)
      · skip
        refine xp_aload_n rfl rfl ?_
        refine xp_gfa rfl rfl (by decide) (by decide) (by first | assumption | exact hL.t rfl) (by first | assumption | exact hL.r rfl | exact hL.2.2.2.2.2) ?_
        refine xp_sipush (n := 150) rfl (by decide) ?_
        refine xp_iload_n rfl rfl ?_
        refine xp_iadd rfl ?_
        refine xp_iald rfl (by first | assumption | exact hL.t rfl) (by omega) (by omega) ?_
        refine xp_is rfl rfl rfl (Nat.le_of_ble_eq_true rfl) (by decide) (by decide) (by decide) (Nat.le_of_ble_eq_true rfl) rfl (xrcv0 (by decide) _ _) (m133 (by omega)) rfl ?_
        rw [en]
        refine xp_ifne 60 rfl (by decide) (by omega) (fun h53 => ?_) (fun h53 => ?_)
        · skip
          refine xp_iconst (n := 0) rfl (by decide) ?_
          refine xp_pfi rfl rfl (by decide) (by decide) (by decide) (by first | assumption | exact hL.t rfl) ?_
          refine xp_aload_n rfl rfl ?_
          refine xp_gfi rfl rfl (by decide) (by decide) (by first | assumption | exact hL.t rfl) ?_
          rw [xsI_eq]
          refine xp_ifle 75 rfl (by decide) (by omega) (fun h68 => ?_) (fun h68 => ?_)
          · skip
            refine xp_aload_n rfl rfl ?_
            refine xp_gfa rfl rfl (by decide) (by decide) (by first | assumption | exact hL.t rfl) (by first | assumption | exact hL.r rfl | exact hL.2.2.2.2.2) ?_
            refine xp_sipush (n := 150) rfl (by decide) ?_
            refine xp_iload_n rfl rfl ?_
            refine xp_iadd rfl ?_
            refine xp_lald rfl (by first | assumption | exact hL.t rfl) (by omega) (by omega) ?_
            refine xp_lreturn rfl (by decide) (by decide) (by decide) ?_
            rfl
          · exfalso; omega
        · exfalso; omega
      · exfalso; omega
    · exfalso; omega
theorem m150c {z : Nat} {T : Nat → Option xT} {R : Nat → Nat → Option Nat} {B : xQ} {w t : Nat} (hL : xLay T R w) (hn : B.1 189 16 = 1) (h9 : B.1 189 9 ≤ 3) (ht : t < B.1 189 9) (hst : B.1 199 t = 1) (hk4 : B.1 206 (150 + t) ≤ 4) (hk : ¬ (B.1 206 (150 + t) = 1 ∨ B.1 206 (150 + t) = 2)) : xF 150 [.ref 189, .int (nI t)] (xm z T R B) (.inr (some (.long 0)), xm z T R (xsI B 189 14 3)) := by
  have e : mIn t 0 (B.1 189 9 - 1) = 1 := by rw [mIn_any (by omega) (by omega) (by omega), if_pos (by omega)]
  have en : mNum (B.1 206 (150 + t)) = 0 := if_neg hk
  refine xF_eq (xF_p (Nat.le_of_ble_eq_true rfl) ?_)
  refine xp_aload_n rfl rfl ?_
  refine xp_aload_n rfl rfl ?_
  refine xp_gfi rfl rfl (by decide) (by decide) (by first | assumption | exact hL.t rfl) ?_
  rw [hn]
  refine xp_ifeq 22 rfl (by decide) (by omega) (fun h5 => ?_) (fun h5 => ?_)
  · exfalso; omega
  · skip
    refine xp_iload_n rfl rfl ?_
    refine xp_iconst (n := 0) rfl (by decide) ?_
    refine xp_aload_n rfl rfl ?_
    refine xp_gfi rfl rfl (by decide) (by decide) (by first | assumption | exact hL.t rfl) ?_
    refine xp_iconst (n := 1) rfl (by decide) ?_
    refine xp_isub rfl (by omega) ?_
    refine xp_is rfl rfl rfl (Nat.le_of_ble_eq_true rfl) (by decide) (by decide) (by decide) (Nat.le_of_ble_eq_true rfl) rfl (xrcv0 (by decide) _ _) (m112 (by omega) (by omega) (by omega)) rfl ?_
    rw [e]
    refine xp_ifne 26 rfl (by decide) (by omega) (fun h19 => ?_) (fun h19 => ?_)
    · skip
      refine xp_aload_n rfl rfl ?_
      refine xp_gfa rfl rfl (by decide) (by decide) (by first | assumption | exact hL.t rfl) (by first | assumption | exact hL.r rfl | exact hL.2.2.2.2.2) ?_
      refine xp_iload_n rfl rfl ?_
      refine xp_iald rfl (by first | assumption | exact hL.t rfl) (by omega) (by omega) ?_
      refine xp_iconst (n := 1) rfl (by decide) ?_
      refine xp_iceq 40 rfl (by decide) (by omega) (by omega) (fun h33 => ?_) (fun h33 => ?_)
      · skip
        refine xp_aload_n rfl rfl ?_
        refine xp_gfa rfl rfl (by decide) (by decide) (by first | assumption | exact hL.t rfl) (by first | assumption | exact hL.r rfl | exact hL.2.2.2.2.2) ?_
        refine xp_sipush (n := 150) rfl (by decide) ?_
        refine xp_iload_n rfl rfl ?_
        refine xp_iadd rfl ?_
        refine xp_iald rfl (by first | assumption | exact hL.t rfl) (by omega) (by omega) ?_
        refine xp_is rfl rfl rfl (Nat.le_of_ble_eq_true rfl) (by decide) (by decide) (by decide) (Nat.le_of_ble_eq_true rfl) rfl (xrcv0 (by decide) _ _) (m133 (by omega)) rfl ?_
        rw [en]
        refine xp_ifne 60 rfl (by decide) (by omega) (fun h53 => ?_) (fun h53 => ?_)
        · exfalso; omega
        · skip
          refine xp_iconst (n := 3) rfl (by decide) ?_
          refine xp_goto 61 rfl (by decide) ?_
          refine xp_pfi rfl rfl (by decide) (by decide) (by decide) (by first | assumption | exact hL.t rfl) ?_
          refine xp_aload_n rfl rfl ?_
          refine xp_gfi rfl rfl (by decide) (by decide) (by first | assumption | exact hL.t rfl) ?_
          rw [xsI_eq]
          refine xp_ifle 75 rfl (by decide) (by omega) (fun h68 => ?_) (fun h68 => ?_)
          · exfalso; omega
          · skip
            refine xp_lconst rfl rfl ?_
            refine xp_goto 85 rfl (by decide) ?_
            refine xp_lreturn rfl (by decide) (by decide) (by decide) ?_
            rfl
      · exfalso; omega
    · exfalso; omega
theorem m150b {z : Nat} {T : Nat → Option xT} {R : Nat → Nat → Option Nat} {B : xQ} {w t : Nat} (hL : xLay T R w) (hn : B.1 189 16 = 1) (h9 : B.1 189 9 ≤ 3) (ht : t < B.1 189 9) (hst : B.1 199 t ≠ 1) (hs2 : B.1 199 t ≤ 2) : xF 150 [.ref 189, .int (nI t)] (xm z T R B) (.inr (some (.long 0)), xm z T R (xsI B 189 14 2)) := by
  have e : mIn t 0 (B.1 189 9 - 1) = 1 := by rw [mIn_any (by omega) (by omega) (by omega), if_pos (by omega)]
  refine xF_eq (xF_p (Nat.le_of_ble_eq_true rfl) ?_)
  refine xp_aload_n rfl rfl ?_
  refine xp_aload_n rfl rfl ?_
  refine xp_gfi rfl rfl (by decide) (by decide) (by first | assumption | exact hL.t rfl) ?_
  rw [hn]
  refine xp_ifeq 22 rfl (by decide) (by omega) (fun h5 => ?_) (fun h5 => ?_)
  · exfalso; omega
  · skip
    refine xp_iload_n rfl rfl ?_
    refine xp_iconst (n := 0) rfl (by decide) ?_
    refine xp_aload_n rfl rfl ?_
    refine xp_gfi rfl rfl (by decide) (by decide) (by first | assumption | exact hL.t rfl) ?_
    refine xp_iconst (n := 1) rfl (by decide) ?_
    refine xp_isub rfl (by omega) ?_
    refine xp_is rfl rfl rfl (Nat.le_of_ble_eq_true rfl) (by decide) (by decide) (by decide) (Nat.le_of_ble_eq_true rfl) rfl (xrcv0 (by decide) _ _) (m112 (by omega) (by omega) (by omega)) rfl ?_
    rw [e]
    refine xp_ifne 26 rfl (by decide) (by omega) (fun h19 => ?_) (fun h19 => ?_)
    · skip
      refine xp_aload_n rfl rfl ?_
      refine xp_gfa rfl rfl (by decide) (by decide) (by first | assumption | exact hL.t rfl) (by first | assumption | exact hL.r rfl | exact hL.2.2.2.2.2) ?_
      refine xp_iload_n rfl rfl ?_
      refine xp_iald rfl (by first | assumption | exact hL.t rfl) (by omega) (by omega) ?_
      refine xp_iconst (n := 1) rfl (by decide) ?_
      refine xp_iceq 40 rfl (by decide) (by omega) (by omega) (fun h33 => ?_) (fun h33 => ?_)
      · exact absurd h33 hst
      · skip
        refine xp_iconst (n := 2) rfl (by decide) ?_
        refine xp_goto 61 rfl (by decide) ?_
        refine xp_pfi rfl rfl (by decide) (by decide) (by decide) (by first | assumption | exact hL.t rfl) ?_
        refine xp_aload_n rfl rfl ?_
        refine xp_gfi rfl rfl (by decide) (by decide) (by first | assumption | exact hL.t rfl) ?_
        rw [xsI_eq]
        refine xp_ifle 75 rfl (by decide) (by omega) (fun h68 => ?_) (fun h68 => ?_)
        · exfalso; omega
        · skip
          refine xp_lconst rfl rfl ?_
          refine xp_goto 85 rfl (by decide) ?_
          refine xp_lreturn rfl (by decide) (by decide) (by decide) ?_
          rfl
    · exfalso; omega
theorem m150a {z : Nat} {T : Nat → Option xT} {R : Nat → Nat → Option Nat} {B : xQ} {w t : Nat} (hL : xLay T R w) (ht : t < 2 ^ 32) (h9 : B.1 189 9 ≤ 3) (hn : B.1 189 16 = if B.1 189 9 = 0 then 0 else 1) (hq : ¬ t < B.1 189 9) : xF 150 [.ref 189, .int (nI t)] (xm z T R B) (.inr (some (.long 0)), xm z T R (xsI B 189 14 1)) := by
  have e : ∀ m, m + 1 = B.1 189 9 → mIn t 0 m = 0 := fun m hm => by rw [mIn_any ht (by omega) (by omega), if_neg (by omega)]
  have h16 : B.1 189 16 = 0 ∨ (B.1 189 16 = 1 ∧ 1 ≤ B.1 189 9) := by rw [hn]; split <;> omega
  refine xF_eq (xF_p (Nat.le_of_ble_eq_true rfl) ?_)
  refine xp_aload_n rfl rfl ?_
  refine xp_aload_n rfl rfl ?_
  refine xp_gfi rfl rfl (by decide) (by decide) (by first | assumption | exact hL.t rfl) ?_
  refine xp_ifeq 22 rfl (by decide) (by omega) (fun h5 => ?_) (fun h5 => ?_)
  · skip
    refine xp_iconst (n := 1) rfl (by decide) ?_
    refine xp_goto 61 rfl (by decide) ?_
    refine xp_pfi rfl rfl (by decide) (by decide) (by decide) (by first | assumption | exact hL.t rfl) ?_
    refine xp_aload_n rfl rfl ?_
    refine xp_gfi rfl rfl (by decide) (by decide) (by first | assumption | exact hL.t rfl) ?_
    rw [xsI_eq]
    refine xp_ifle 75 rfl (by decide) (by omega) (fun h68 => ?_) (fun h68 => ?_)
    · exfalso; omega
    · skip
      refine xp_lconst rfl rfl ?_
      refine xp_goto 85 rfl (by decide) ?_
      refine xp_lreturn rfl (by decide) (by decide) (by decide) ?_
      rfl
  · skip
    refine xp_iload_n rfl rfl ?_
    refine xp_iconst (n := 0) rfl (by decide) ?_
    refine xp_aload_n rfl rfl ?_
    refine xp_gfi rfl rfl (by decide) (by decide) (by first | assumption | exact hL.t rfl) ?_
    refine xp_iconst (n := 1) rfl (by decide) ?_
    refine xp_isub rfl (by omega) ?_
    refine xp_is rfl rfl rfl (Nat.le_of_ble_eq_true rfl) (by decide) (by decide) (by decide) (Nat.le_of_ble_eq_true rfl) rfl (xrcv0 (by decide) _ _) (m112 ht (by omega) (by omega)) rfl ?_
    rw [e _ (by omega)]
    refine xp_ifne 26 rfl (by decide) (by omega) (fun h19 => ?_) (fun h19 => ?_)
    · exfalso; omega
    · skip
      refine xp_iconst (n := 1) rfl (by decide) ?_
      refine xp_goto 61 rfl (by decide) ?_
      refine xp_pfi rfl rfl (by decide) (by decide) (by decide) (by first | assumption | exact hL.t rfl) ?_
      refine xp_aload_n rfl rfl ?_
      refine xp_gfi rfl rfl (by decide) (by decide) (by first | assumption | exact hL.t rfl) ?_
      rw [xsI_eq]
      refine xp_ifle 75 rfl (by decide) (by omega) (fun h68 => ?_) (fun h68 => ?_)
      · exfalso; omega
      · skip
        refine xp_lconst rfl rfl ?_
        refine xp_goto 85 rfl (by decide) ?_
        refine xp_lreturn rfl (by decide) (by decide) (by decide) ?_
        rfl
theorem pub_value (t : Nat) (ht : t < 2 ^ 32) : Pub 7 150 (mpO [(2, 1), (1, 2), (3, 3)]) [.int (nI t)] := by
  refine Pub.mk rfl rfl gC1 gM1 (fun z T R w n A hn hI => ?_)
  obtain ⟨hL, hr, hc, hT, hR, h3, h4⟩ := hI
  have hc3 := hc.cnt
  by_cases hq : t < A.1 w 2
  · have hSo := hc.st hq
    have fact : ∀ B, Rel w A B → B.1 189 16 = 1 ∧ B.1 189 9 = A.1 w 2 ∧ B.1 199 t = A.1 (w + 11 + 25 * t) 2 := fun B hB => ⟨by rw [hB.2.2.1.2.2.2.2.2.2.1, if_neg (by omega)], hB.2.2.1.1, (hB.2.2.2.1 t hq).1⟩
    by_cases h1 : A.1 (w + 11 + 25 * t) 2 = 1
    · have vv := hSo.2.2.2.2.2.1 h1
      have fres : ∀ B, Rel w A B → B.1 206 (150 + t) = A.1 (w + 11 + 25 * t + 3) 0 ∧ B.2 207 (150 + t) = A.2 (w + 11 + 25 * t + 4) 0 := fun B hB => (hB.2.2.2.1 t hq).2.2.2.1 h1
      by_cases hk : A.1 (w + 11 + 25 * t + 3) 0 = 1 ∨ A.1 (w + 11 + 25 * t + 3) 0 = 2
      · refine Or.inr ⟨_, A, ⟨0, Or.inr ⟨_, rfl⟩⟩, c7 hL hc3 hq h1 hk, hc, hT, by omega, by omega, fun B hB => ?_⟩
        obtain ⟨f1, f2, f3⟩ := fact B hB
        obtain ⟨g1, g2⟩ := fres B hB
        have m := m150 (z := z) (B := B) (t := t) hL f1 (by omega) (by omega) (by omega) (by rw [g1]; exact hk)
        rw [g2] at m
        exact ⟨_, m, by rw [xsI_eq], hB.thr hc⟩
      · refine Or.inl ⟨3, by decide, c7c hL hc3 hq h1 vv.1 hk, fun B hB => ?_⟩
        obtain ⟨f1, f2, f3⟩ := fact B hB
        obtain ⟨g1, g2⟩ := fres B hB
        exact ⟨_, _, m150c (t := t) hL f1 (by omega) (by omega) (by omega) (by rw [g1]; exact vv.1) (by rw [g1]; exact hk), by rw [xsI_eq]; rfl, hB.thr hc⟩
    · refine Or.inl ⟨1, by decide, c7b hL hc3 hq h1 hSo.1, fun B hB => ?_⟩
      obtain ⟨f1, f2, f3⟩ := fact B hB
      have s2 := hSo.1
      exact ⟨_, _, m150b (t := t) hL f1 (by omega) (by omega) (by omega) (by omega), by rw [xsI_eq]; rfl, hB.thr hc⟩
  · refine Or.inl ⟨2, by decide, c7a hL hc3 ht hq, fun B hB => ?_⟩
    have e9 := hB.2.2.1.1
    exact ⟨_, _, m150a (t := t) hL ht (by omega) (by rw [hB.2.2.1.2.2.2.2.2.2.1, e9]) (by omega), by rw [xsI_eq]; rfl, hB.thr hc⟩
