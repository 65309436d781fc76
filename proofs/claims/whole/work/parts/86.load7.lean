-- load: the reference's threads
/-- a frame is the same on both sides -/
def FR (u s t k : Nat) (A B : xQ) : Prop := RelF (s + 5 + 4 * k) (5 * t + k) A (vB B) ∧ FOk u A (s + 5 + 4 * k) ∧ A.1 (s + 5 + 4 * k) 2 ≤ 30
/-- a thread is the same on both sides -/
def TH (u t : Nat) (A B : xQ) : Prop := SOk u A (u + 11 + 25 * t) ∧ RelS (u + 11 + 25 * t) t A (vB B) ∧ ∀ k, k < A.1 (u + 11 + 25 * t) 3 → A.1 (u + 11 + 25 * t + 5 + 4 * k) 2 ≤ 30
theorem vB_2 {B : xQ} {j : Nat} : (vB B).2 207 j = B.2 228 j := rfl
theorem FR.keep {u s t k : Nat} {A A2 B B2 : xQ} (h : FR u s t k A B) (hI : CI u A) (hk : ∀ o, o < A.1 (u + 2) 4 → A2.1 (u + 3) o = A.1 (u + 3) o) (h1 : ∀ a j, s + 5 + 4 * k ≤ a → a < s + 5 + 4 * k + 4 → A2.1 a j = A.1 a j) (h2 : ∀ a j, s + 5 + 4 * k ≤ a → a < s + 5 + 4 * k + 4 → A2.2 a j = A.2 a j) (g1 : ∀ a, 220 ≤ a → a ≤ 223 → B2.1 a (5 * t + k) = B.1 a (5 * t + k)) (g2 : ∀ j, 10 * (5 * t + k) ≤ j → j < 10 * (5 * t + k) + 10 → B2.1 224 j = B.1 224 j) (g3 : ∀ j, 10 * (5 * t + k) ≤ j → j < 10 * (5 * t + k) + 10 → B2.2 228 j = B.2 228 j) : FR u s t k A2 B2 := by
  obtain ⟨f1, f2, f3⟩ := h
  refine ⟨f1.away f2.2.2.1 (fun j => h1 _ _ (by omega) (by omega)) (fun j => h1 _ _ (by omega) (by omega)) (fun j => h2 _ _ (by omega) (by omega)) (fun a q1 q2 => by rw [vB_1 (by omega), vB_1 (by omega)]; exact g1 _ (by omega) (by omega)) (fun j q1 q2 => by rw [vB_1 (by omega), vB_1 (by omega)]; exact g2 j q1 q2) (fun j q1 q2 => by rw [vB_2, vB_2]; exact g3 j q1 q2), f2.ka hI hk (fun j => h1 _ _ (by omega) (by omega)) (fun j => h1 _ _ (by omega) (by omega)) (fun j => h2 _ _ (by omega) (by omega)), by rw [h1 _ _ (by omega) (by omega)]; exact f3⟩
theorem TH.keep {u t : Nat} {A A2 B B2 : xQ} (h : TH u t A B) (ht : t < 3) (hI : CI u A) (hk : ∀ o, o < A.1 (u + 2) 4 → A2.1 (u + 3) o = A.1 (u + 3) o) (h1 : ∀ a j, u + 11 + 25 * t ≤ a → a < u + 11 + 25 * t + 25 → A2.1 a j = A.1 a j) (h2 : ∀ a j, u + 11 + 25 * t ≤ a → a < u + 11 + 25 * t + 25 → A2.2 a j = A.2 a j) (g1 : ∀ a, 217 ≤ a → a ≤ 219 → B2.1 a t = B.1 a t) (g2 : ∀ a j, 220 ≤ a → a ≤ 223 → 5 * t ≤ j → j < 5 * t + 5 → B2.1 a j = B.1 a j) (g3 : ∀ j, (50 * t ≤ j ∧ j < 50 * t + 50) ∨ j = 150 + t → B2.1 224 j = B.1 224 j) (g4 : ∀ j, (50 * t ≤ j ∧ j < 50 * t + 50) ∨ j = 150 + t → B2.2 228 j = B.2 228 j) : TH u t A2 B2 := by
  obtain ⟨f1, f2, f3⟩ := h
  have h5 := f1.2.1
  refine ⟨f1.ka hI hk h1 h2, f2.away ht f1 h1 h2 (fun a q1 q2 => by rw [vB_1 (by omega), vB_1 (by omega)]; exact g1 _ (by omega) (by omega)) (fun a j q1 q2 q3 q4 => by rw [vB_1 (by omega), vB_1 (by omega)]; exact g2 _ j (by omega) (by omega) q3 q4) (fun j q => by rw [vB_1 (by omega), vB_1 (by omega)]; exact g3 j q) (fun j q => by rw [vB_2, vB_2]; exact g4 j q), fun k hk => ?_⟩
  rw [h1 _ _ (by omega) (by omega)] at hk
  rw [h1 _ _ (by omega) (by omega)]
  exact f3 k hk
theorem of_lo {u s k : Nat} {A : xQ} (hI : CI u A) (hl : 1 ≤ A.1 102 5) (hs : As u s) (hk : A.1 s 3 = k) (hk5 : k < 5) : (∀ a j, s + 1 ≤ a → a < s + 5 + 4 * k → (aOf u s A).1 a j = A.1 a j) ∧ ∀ a j, s + 1 ≤ a → a < s + 5 + 4 * k → (aOf u s A).2 a j = A.2 a j := by
  have h1 := KA.of1 hI hs (by omega)
  have h2 := KA.rf h1.ci (h1.l hl) (hs.fr hk5)
  have s1 := hs.1
  have hu := hs.2
  have e3 : (aRb 0 5 A).2.1 s 3 = k := by rw [aRb_ne _ _ _ (by omega)]; exact hk
  obtain ⟨p1, p2, -⟩ := aOpen_r (aRb 0 5 A).2 s (aRb 0 5 A).1
  rw [e3] at p1 p2
  unfold aOf
  rw [hk]
  refine ⟨fun a j q1 q2 => ?_, fun a j q1 q2 => ?_⟩
  · rw [h2.1 a j (by omega) (by omega) (by omega) (by omega), p1 a j (by omega) (by omega) (by omega), aRb_ne _ _ _ (by omega)]
  · rw [h2.2.1 a j (by omega), p2 a j (by omega), aRb_2]
theorem KA.rs2 {u s : Nat} {A : xQ} (h : CI u A) (hl : 1 ≤ A.1 102 5) (hs : As u s) : KA u s (s + 25) (aBc s A) (aRst u s A) := by
  obtain ⟨b1, b2, b3, b4⟩ := KA.bc h hs
  have s1 := hs.1
  have hu := hs.2
  unfold aRst
  split
  · exact (KA.rv (lo := s + 3) (hi := s + 25) (ka := s + 3) (na := s + 4) (i := 0) b1.ci hu (b1.l hl) (by omega) (by omega) (by omega) (by omega) (by omega)).mono (by omega) (by omega)
  · split
    · have h2 := KA.re (lo := s) (hi := s + 25) b1.ci hu
      exact h2.trans (KA.wI h2.ci (by omega) (by omega) (by omega))
    · have h2 := KA.rb (lo := s) (hi := s + 25) b1.ci hu 1 5
      have hin := (aRb_in (lo := 1) (hi := 5) (A := aBc s A) (by omega)).2
      exact h2.trans (KA.ofs hs (aRb 1 5 (aBc s A)).1 0 (aRb 1 5 (aBc s A)).2 h2.ci (h2.l (b1.l hl)) (by rw [aRb_ne _ _ _ (by omega), b4]; omega)).1
theorem l165 {z : Nat} {T : Nat → Option xT} {R : Nat → Nat → Option Nat} {w u s t n : Nat} (hL : xLay T R w) (hs : As u s) (ht : t < 3) (hn5 : n ≤ 5) : ∀ (m k : Nat) (A B : xQ), k + m = n → CI u A → 1 ≤ A.1 102 5 → RR u A B → A.1 s 3 = k → B.1 219 t < 256 → (A.1 102 2 = 4294967294 → B.1 219 t = n) → (A.1 102 2 = 4294967294 → ∀ i, i < k → FR u s t i A B) → xP 165 61 [(0, .ref 189), (1, .int (nI t)), (2, .int (nI (5 * t + k)))] [] 0 0 (xm z T R B) (fun r => ∃ B2, r = (.inr none, xm z T R B2) ∧ RR u (xit (fun _ B => aOf u s B) m k A) B2 ∧ KB (50 * t) (50 * t + 50) (5 * t) (5 * t + 5) 0 0 0 0 B B2 ∧ ((xit (fun _ B => aOf u s B) m k A).1 102 2 = 4294967294 → ∀ i, i < n → FR u s t i (xit (fun _ B => aOf u s B) m k A) B2)) := by
  have hu := hs.2
  have hs1 := hs.1
  intro m
  induction m with
  | zero =>
    intro k A B hi hI hl hR hk hb hd hC
    have e4 : k = n := by omega
    subst e4
    have h38 := hR.2.2.1
    have hres : ∃ B2, ((Sum.inr none : Nat ⊕ Option Value), xm z T R B) = (.inr none, xm z T R B2) ∧ RR u A B2 ∧ KB (50 * t) (50 * t + 50) (5 * t) (5 * t + 5) 0 0 0 0 B B2 ∧ (A.1 102 2 = 4294967294 → ∀ i, i < k → FR u s t i A B2) := ⟨B, rfl, hR, KB.refl B, hC⟩
    by_cases hE : A.1 102 2 = 4294967294
    · have hd2 := hd hE
      refine xp_iload_n rfl rfl ?_
      refine xp_iconst (n := 5) rfl (by decide) ?_
      refine xp_iload_n rfl rfl ?_
      refine xp_imul rfl ?_
      refine xp_aload_n rfl rfl ?_
      refine xp_gfa rfl rfl (by decide) (by decide) (by first | assumption | exact hL.t rfl) (by first | assumption | exact hL.r rfl | exact hL.2.2.2.2.2) ?_
      refine xp_iload_n rfl rfl ?_
      refine xp_iald rfl (by first | assumption | exact hL.t rfl) (by omega) (by omega) ?_
      rw [hd2]
      refine xp_iadd rfl ?_
      refine xp_icge 93 rfl (by decide) (by omega) (by omega) (fun h72 => ?_) (fun h72 => ?_)
      · skip
        refine xp_goto 157 rfl (by decide) ?_
        refine xp_return rfl (by decide) (by decide) (by decide) ?_
        exact hres
      · exfalso; omega
    · have h38b := (hR.2.2.2.2.2.2 hE).1
      refine xp_iload_n rfl rfl ?_
      refine xp_iconst (n := 5) rfl (by decide) ?_
      refine xp_iload_n rfl rfl ?_
      refine xp_imul rfl ?_
      refine xp_aload_n rfl rfl ?_
      refine xp_gfa rfl rfl (by decide) (by decide) (by first | assumption | exact hL.t rfl) (by first | assumption | exact hL.r rfl | exact hL.2.2.2.2.2) ?_
      refine xp_iload_n rfl rfl ?_
      refine xp_iald rfl (by first | assumption | exact hL.t rfl) (by omega) (by omega) ?_
      refine xp_iadd rfl ?_
      refine xp_icge 93 rfl (by decide) (by omega) (by omega) (fun h72 => ?_) (fun h72 => ?_)
      · skip
        refine xp_goto 157 rfl (by decide) ?_
        refine xp_return rfl (by decide) (by decide) (by decide) ?_
        exact hres
      · skip
        refine xp_aload_n rfl rfl ?_
        refine xp_gfi rfl rfl (by decide) (by decide) (by first | assumption | exact hL.t rfl) ?_
        refine xp_ifne 93 rfl (by decide) (by omega) (fun h79 => ?_) (fun h79 => ?_)
        · skip
          refine xp_goto 157 rfl (by decide) ?_
          refine xp_return rfl (by decide) (by decide) (by decide) ?_
          exact hres
        · exfalso; omega
  | succ m ih =>
    intro k A B hi hI hl hR hk hb hd hC
    have h38 := hR.2.2.1
    by_cases hE : A.1 102 2 = 4294967294
    · have hd2 := hd hE
      have h38b := (hR.2.2.2.2.2.1 hE).1
      obtain ⟨B1, g1, g2, g3, g4⟩ := m164 (z := z) (p := 5 * t + k) hL hs hI hl hR hk (by omega) (by omega)
      obtain ⟨hK, hK3, -, -⟩ := KA.of hI hl hs (by omega)
      obtain ⟨lo1, lo2⟩ := of_lo hI hl hs hk (by omega)
      have e219 : B1.1 219 t = B.1 219 t := g4.1 _ _ (by omega) (by omega) (by omega) (by omega) (by omega) (by omega)
      have hih := ih (k + 1) (aOf u s A) B1 (by omega) hK.ci (hK.l hl) g2 (by omega) (by omega) (fun _ => by omega) (fun q i hi2 => by
        by_cases e : i = k
        · rw [e]; exact g3 q
        · exact (hC (hK.nf q) i (by omega)).keep hI hK.2.2.2.1 (fun a j q1 q2 => lo1 a j (by omega) (by omega)) (fun a j q1 q2 => lo2 a j (by omega) (by omega)) (fun a q1 q2 => g4.1 _ _ (by omega) (by omega) (by omega) (by omega) (by omega) (by omega)) (fun j q1 q2 => g4.1 _ _ (by omega) (by omega) (by omega) (by omega) (by omega) (by omega)) (fun j q1 q2 => g4.2.1 _ _ (by omega)))
      have hih2 : xP 165 61 [(0, .ref 189), (1, .int (nI t)), (2, .int (nI (5 * t + (k + 1))))] [] 0 0 (xm z T R B1) (fun r => ∃ B2, r = (.inr none, xm z T R B2) ∧ RR u (xit (fun _ B => aOf u s B) (m + 1) k A) B2 ∧ KB (50 * t) (50 * t + 50) (5 * t) (5 * t + 5) 0 0 0 0 B B2 ∧ ((xit (fun _ B => aOf u s B) (m + 1) k A).1 102 2 = 4294967294 → ∀ i, i < n → FR u s t i (xit (fun _ B => aOf u s B) (m + 1) k A) B2)) := by
        obtain ⟨r, k1, B2, k2, k3, k4, k5⟩ := hih
        exact ⟨r, k1, B2, k2, k3, (g4.mono (by omega) (by omega) (by omega) (by omega)).trans k4, k5⟩
      refine xp_iload_n rfl rfl ?_
      refine xp_iconst (n := 5) rfl (by decide) ?_
      refine xp_iload_n rfl rfl ?_
      refine xp_imul rfl ?_
      refine xp_aload_n rfl rfl ?_
      refine xp_gfa rfl rfl (by decide) (by decide) (by first | assumption | exact hL.t rfl) (by first | assumption | exact hL.r rfl | exact hL.2.2.2.2.2) ?_
      refine xp_iload_n rfl rfl ?_
      refine xp_iald rfl (by first | assumption | exact hL.t rfl) (by omega) (by omega) ?_
      rw [hd2]
      refine xp_iadd rfl ?_
      refine xp_icge 93 rfl (by decide) (by omega) (by omega) (fun h72 => ?_) (fun h72 => ?_)
      · exfalso; omega
      · skip
        refine xp_aload_n rfl rfl ?_
        refine xp_gfi rfl rfl (by decide) (by decide) (by first | assumption | exact hL.t rfl) ?_
        rw [h38b]
        refine xp_ifne 93 rfl (by decide) (by omega) (fun h79 => ?_) (fun h79 => ?_)
        · exfalso; omega
        · skip
          refine xp_aload_n rfl rfl ?_
          refine xp_iload_n rfl rfl ?_
          refine xp_iv rfl rfl (Nat.le_of_ble_eq_true rfl) (by decide) (by decide) (by decide) (Nat.le_of_ble_eq_true rfl) rfl (xrcv1 (by decide) (by first | assumption | exact hL.t rfl)) (g1) rfl ?_
          refine xp_iinc rfl rfl (by decide) (nI_inc _) ?_
          refine xp_goto 61 rfl (by decide) ?_
          refine xp_weak [(0, .ref 189), (1, .int (nI t)), (2, .int (nI (5 * t + (k + 1))))] (xle_cons rfl (xle_cons rfl (xle_cons rfl (xle_nil _)))) (by simp [xnd]) ?_
          exact hih2
    · have h38b := (hR.2.2.2.2.2.2 hE).1
      have hK := (KA.ofs hs (m + 1) k A hI hl (by omega)).1
      have hres : ∃ B2, ((Sum.inr none : Nat ⊕ Option Value), xm z T R B) = (.inr none, xm z T R B2) ∧ RR u (xit (fun _ B => aOf u s B) (m + 1) k A) B2 ∧ KB (50 * t) (50 * t + 50) (5 * t) (5 * t + 5) 0 0 0 0 B B2 ∧ ((xit (fun _ B => aOf u s B) (m + 1) k A).1 102 2 = 4294967294 → ∀ i, i < n → FR u s t i (xit (fun _ B => aOf u s B) (m + 1) k A) B2) := ⟨B, rfl, hR.ka hE hK hu (by omega), KB.refl B, fun q => absurd (hK.nf q) hE⟩
      refine xp_iload_n rfl rfl ?_
      refine xp_iconst (n := 5) rfl (by decide) ?_
      refine xp_iload_n rfl rfl ?_
      refine xp_imul rfl ?_
      refine xp_aload_n rfl rfl ?_
      refine xp_gfa rfl rfl (by decide) (by decide) (by first | assumption | exact hL.t rfl) (by first | assumption | exact hL.r rfl | exact hL.2.2.2.2.2) ?_
      refine xp_iload_n rfl rfl ?_
      refine xp_iald rfl (by first | assumption | exact hL.t rfl) (by omega) (by omega) ?_
      refine xp_iadd rfl ?_
      refine xp_icge 93 rfl (by decide) (by omega) (by omega) (fun h72 => ?_) (fun h72 => ?_)
      · skip
        refine xp_goto 157 rfl (by decide) ?_
        refine xp_return rfl (by decide) (by decide) (by decide) ?_
        exact hres
      · skip
        refine xp_aload_n rfl rfl ?_
        refine xp_gfi rfl rfl (by decide) (by decide) (by first | assumption | exact hL.t rfl) ?_
        refine xp_ifne 93 rfl (by decide) (by omega) (fun h79 => ?_) (fun h79 => ?_)
        · skip
          refine xp_goto 157 rfl (by decide) ?_
          refine xp_return rfl (by decide) (by decide) (by decide) ?_
          exact hres
        · exfalso; omega
theorem m165 {z : Nat} {T : Nat → Option xT} {R : Nat → Nat → Option Nat} {A B : xQ} {w u t : Nat} (hL : xLay T R w) (hu : u = 12 ∨ u = 103) (ht : t < 3) (hI : CI u A) (hl : 1 ≤ A.1 102 5) (hR : RR u A B) : ∃ B2, xF 165 [.ref 189, .int (nI t)] (xm z T R B) (.inr none, xm z T R B2) ∧ RR u (aRst u (u + 11 + 25 * t) A) B2 ∧ ((aRst u (u + 11 + 25 * t) A).1 102 2 = 4294967294 → TH u t (aRst u (u + 11 + 25 * t) A) B2) ∧ KB (50 * t) (50 * t + 50) (5 * t) (5 * t + 5) t (t + 1) 0 0 B B2 := by
  have hs : As u (u + 11 + 25 * t) := As.of (w := 0) hu ht
  have hth : ∀ A B, TH u t A B ↔ SOk u A (u + 11 + 25 * t) ∧ RelS (u + 11 + 25 * t) t A (vB B) ∧ ∀ k, k < A.1 (u + 11 + 25 * t) 3 → A.1 (u + 11 + 25 * t + 5 + 4 * k) 2 ≤ 30 := fun _ _ => Iff.rfl
  generalize hse : u + 11 + 25 * t = s at *
  have hs1 := hs.1
  obtain ⟨x, B1, g1, r1, l1, n1, m1, k1⟩ := m161k (z := z) (lo := 0) (hi := 2) hL hu hI hR (by omega)
  have hin := (aRb_in (lo := 0) (hi := 2) (A := A) (by omega)).2
  obtain ⟨b1, b2, b3, b4⟩ := KA.bc hI hs
  have bc2 : ∀ a j, a ≠ s → (aBc s A).1 a j = (aRb 0 2 A).2.1 a j := fun a j q => by unfold aBc; rw [xsI_ne (by omega), xsI_ne (by omega), xsI_ne (by omega)]
  have RRb : RR u (aBc s A) (xsI (xsI (xsI B1 217 t x) 219 t 0) 218 t 0) := r1.oth (fun a j q => bc2 a j (by omega)) (fun a j q => by rw [xsI_ne (by omega), xsI_ne (by omega), xsI_ne (by omega)]) (fun o ho => by rw [xsI_ne (by omega), xsI_ne (by omega), xsI_ne (by omega)]; exact (r1.2.2.2.2.1 o ho).2)
  have kkb : KB (50 * t) (50 * t + 50) (5 * t) (5 * t + 5) t (t + 1) 0 0 B (xsI (xsI (xsI B1 217 t x) 219 t 0) 218 t 0) := k1.up.trans ⟨fun a j _ _ _ _ q _ => by rw [xsI_ne (by omega), xsI_ne (by omega), xsI_ne (by omega)], fun _ _ _ => rfl, fun j _ _ _ _ => by rw [xsI_ne (by omega), xsI_ne (by omega), xsI_ne (by omega)], by rw [xsI_ne (by omega), xsI_ne (by omega), xsI_ne (by omega)]⟩
  have hl2 := b1.l hl
  have hI2 := b1.ci
  have w217 : (xsI (xsI (xsI B1 217 t x) 219 t 0) 218 t 0).1 217 t = x := by rw [xsI_ne (by omega), xsI_ne (by omega), xsI_eq]
  have w218 : (xsI (xsI (xsI B1 217 t x) 219 t 0) 218 t 0).1 218 t = 0 := xsI_eq
  have w219 : (xsI (xsI (xsI B1 217 t x) 219 t 0) 218 t 0).1 219 t = 0 := by rw [xsI_ne (by omega), xsI_eq]
  have hrs2 := KA.rs2 hI hl hs
  have enf : (aBc s A).1 102 2 = (aRb 0 2 A).2.1 102 2 := bc2 _ _ (by omega)
  obtain ⟨B0, hB0⟩ : ∃ B0, B0 = xsI (xsI (xsI B1 217 t x) 219 t 0) 218 t 0 := ⟨_, rfl⟩
  rw [← hB0] at RRb kkb w217 w218 w219
  have h38 := RRb.2.2.1
  have hn39 := RRb.2.2.2.1
  refine xF_x (xF_p (Nat.le_of_ble_eq_true rfl) ?_)
  by_cases hE : (aBc s A).1 102 2 = 4294967294
  · have h38b := (RRb.2.2.2.2.2.1 hE).1
    have s3 := (RRb.2.2.2.2.2.1 hE).2.2.1
    have gx := n1 (by rw [← enf]; exact hE)
    subst gx
    unfold aRst
    clear n1 m1 r1 k1 enf bc2 hrs2
    generalize aRb 0 2 A = r at *
    generalize aBc s A = C at *
    have h3 : r.1 = 0 ∨ r.1 = 1 ∨ r.1 = 2 := by omega
    rcases h3 with hk | hk | hk
    · rw [if_neg (by omega), if_neg (by omega)]
      obtain ⟨x5, B5, g5, r5, l5, n5, m5, k5⟩ := m161k (z := z) (lo := 1) (hi := 5) hL hu hI2 RRb (by omega)
      have hin5 := aRb_in (lo := 1) (hi := 5) (A := C) (by omega)
      have kk5 : KB (50 * t) (50 * t + 50) (5 * t) (5 * t + 5) t (t + 1) 0 0 B (xsI B5 219 t x5) := kkb.trans (k5.up.trans ⟨fun a j _ _ _ _ q _ => xsI_ne (by omega), fun _ _ _ => rfl, fun j _ _ _ _ => xsI_ne (by omega), by rw [xsI_ne (by omega)]⟩)
      have RR5 : RR u (aRb 1 5 C).2 (xsI B5 219 t x5) := r5.oth (fun _ _ _ => rfl) (fun a j q => xsI_ne (by omega)) (fun o ho => by rw [xsI_ne (by omega)]; exact (r5.2.2.2.2.1 o ho).2)
      have k0 := KA.rb (lo := 0) (hi := 0) hI2 hu 1 5
      have d3 : (aRb 1 5 C).2.1 s 3 = 0 := by rw [aRb_ne _ _ _ (by omega)]; exact b4
      have fin := l165 (z := z) (n := (aRb 1 5 C).1) hL hs ht hin5.2 (aRb 1 5 C).1 0 (aRb 1 5 C).2 (xsI B5 219 t x5) (by omega) k0.ci (k0.l hl2) RR5 d3 (by rw [xsI_eq]; exact l5) (fun q => by rw [xsI_eq]; exact n5 q) (fun _ i hi => by omega)
      obtain ⟨c1, c2, c3, c4⟩ := KA.ofs hs (aRb 1 5 C).1 0 (aRb 1 5 C).2 k0.ci (k0.l hl2) (by omega)
      have fin2 : xP 165 61 [(0, .ref 189), (1, .int (nI t)), (2, .int (nI (5 * t + 0)))] [] 0 0 (xm z T R (xsI B5 219 t x5)) (fun r => ∃ B2, r = (.inr none, xm z T R B2) ∧ RR u (xit (fun _ B => aOf u s B) (aRb 1 5 C).1 0 (aRb 1 5 C).2) B2 ∧ ((xit (fun _ B => aOf u s B) (aRb 1 5 C).1 0 (aRb 1 5 C).2).1 102 2 = 4294967294 → TH u t (xit (fun _ B => aOf u s B) (aRb 1 5 C).1 0 (aRb 1 5 C).2) B2) ∧ KB (50 * t) (50 * t + 50) (5 * t) (5 * t + 5) t (t + 1) 0 0 B B2) := by
        obtain ⟨r, w1, B6, w2, w3, w4, w5⟩ := fin
        refine ⟨r, w1, B6, w2, w3, fun q => ?_, kk5.trans (w4.mono (by omega) (by omega) (by omega) (by omega))⟩
        have fr := w5 q
        have q5 := c1.nf q
        have e2 : (xit (fun _ B => aOf u s B) (aRb 1 5 C).1 0 (aRb 1 5 C).2).1 s 2 = 0 := by rw [c3, aRb_ne _ _ _ (by omega), b2]; exact hk
        have e3 : (xit (fun _ B => aOf u s B) (aRb 1 5 C).1 0 (aRb 1 5 C).2).1 s 3 = (aRb 1 5 C).1 := by rw [c2, d3]; omega
        have e4 : (xit (fun _ B => aOf u s B) (aRb 1 5 C).1 0 (aRb 1 5 C).2).1 s 4 = 0 := by rw [c4, aRb_ne _ _ _ (by omega), b3]
        have b6 : ∀ a, 217 ≤ a → a ≤ 219 → B6.1 a t = (xsI B5 219 t x5).1 a t := fun a q1 q2 => w4.1 _ _ (by omega) (by omega) (by omega) (by omega) (by omega) (by omega)
        have b5 : ∀ a, 217 ≤ a → a ≤ 218 → B6.1 a t = B0.1 a t := fun a q1 q2 => by rw [b6 a q1 (by omega), xsI_ne (by omega)]; exact k5.1 _ _ (by omega) (by omega) (by omega) (by omega) (by omega) (by omega)
        rw [hth]
        refine ⟨⟨by omega, by omega, fun _ => by omega, fun q => by omega, by omega, fun q => by omega, fun k hk => ?_⟩, ⟨?_, ⟨?_, fun _ => e4⟩, ?_, fun q => by omega, fun k hk => ?_⟩, fun k hk => ?_⟩
        · rw [e3] at hk
          exact (fr k hk).2.1
        · show B6.1 217 t = _
          rw [b5 _ (by omega) (by omega), w217, e2]; exact hk
        · show B6.1 218 t = _
          rw [b5 _ (by omega) (by omega), w218, e4]
        · show B6.1 219 t = _
          rw [b6 _ (by omega) (by omega), xsI_eq, e3]
          exact n5 q5
        · rw [e3] at hk
          exact (fr k hk).1
        · rw [e3] at hk
          exact (fr k hk).2.2
      refine xp_aload_n rfl rfl ?_
      refine xp_gfa rfl rfl (by decide) (by decide) (by first | assumption | exact hL.t rfl) (by first | assumption | exact hL.r rfl | exact hL.2.2.2.2.2) ?_
      refine xp_iload_n rfl rfl ?_
      refine xp_aload_n rfl rfl ?_
      refine xp_iconst (n := 0) rfl (by decide) ?_
      refine xp_iconst (n := 2) rfl (by decide) ?_
      refine xp_iconst (n := 1) rfl (by decide) ?_
      refine xp_iv rfl rfl (Nat.le_of_ble_eq_true rfl) (by decide) (by decide) (by decide) (Nat.le_of_ble_eq_true rfl) rfl (xrcv1 (by decide) (by first | assumption | exact hL.t rfl)) (g1) rfl ?_
      refine xp_iast rfl (by first | assumption | exact hL.t rfl) (by omega) (by omega) ?_
      refine xp_aload_n rfl rfl ?_
      refine xp_gfa rfl rfl (by decide) (by decide) (by first | assumption | exact hL.t rfl) (by first | assumption | exact hL.r rfl | exact hL.2.2.2.2.2) ?_
      refine xp_iload_n rfl rfl ?_
      refine xp_iconst (n := 0) rfl (by decide) ?_
      refine xp_iast rfl (by first | assumption | exact hL.t rfl) (by omega) (by omega) ?_
      refine xp_aload_n rfl rfl ?_
      refine xp_gfa rfl rfl (by decide) (by decide) (by first | assumption | exact hL.t rfl) (by first | assumption | exact hL.r rfl | exact hL.2.2.2.2.2) ?_
      refine xp_iload_n rfl rfl ?_
      refine xp_iconst (n := 0) rfl (by decide) ?_
      refine xp_iast rfl (by first | assumption | exact hL.t rfl) (by omega) (by omega) ?_
      rw [← hB0]
      refine xp_aload_n rfl rfl ?_
      refine xp_gfi rfl rfl (by decide) (by decide) (by first | assumption | exact hL.t rfl) ?_
      rw [h38b]
      refine xp_ifle 35 rfl (by decide) (by omega) (fun h31 => ?_) (fun h31 => ?_)
      · skip
        refine xp_aload_n rfl rfl ?_
        refine xp_gfa rfl rfl (by decide) (by decide) (by first | assumption | exact hL.t rfl) (by first | assumption | exact hL.r rfl | exact hL.2.2.2.2.2) ?_
        refine xp_iload_n rfl rfl ?_
        refine xp_iald rfl (by first | assumption | exact hL.t rfl) (by omega) (by omega) ?_
        rw [w217]
        refine xp_ifne 96 rfl (by decide) (by omega) (fun h41 => ?_) (fun h41 => ?_)
        · exfalso; omega
        · skip
          refine xp_aload_n rfl rfl ?_
          refine xp_gfa rfl rfl (by decide) (by decide) (by first | assumption | exact hL.t rfl) (by first | assumption | exact hL.r rfl | exact hL.2.2.2.2.2) ?_
          refine xp_iload_n rfl rfl ?_
          refine xp_aload_n rfl rfl ?_
          refine xp_iconst (n := 1) rfl (by decide) ?_
          refine xp_iconst (n := 5) rfl (by decide) ?_
          refine xp_iconst (n := 1) rfl (by decide) ?_
          refine xp_iv rfl rfl (Nat.le_of_ble_eq_true rfl) (by decide) (by decide) (by decide) (Nat.le_of_ble_eq_true rfl) rfl (xrcv1 (by decide) (by first | assumption | exact hL.t rfl)) (g5) rfl ?_
          refine xp_iast rfl (by first | assumption | exact hL.t rfl) (by omega) (by omega) ?_
          refine xp_iconst (n := 5) rfl (by decide) ?_
          refine xp_iload_n rfl rfl ?_
          refine xp_imul rfl ?_
          refine xp_istore_n rfl (by decide) ?_
          refine xp_weak [(0, .ref 189), (1, .int (nI t)), (2, .int (nI (5 * t + 0)))] (xle_cons rfl (xle_cons rfl (xle_cons rfl (xle_nil _)))) (by simp [xnd]) ?_
          exact fin2
      · exfalso; omega
    · rw [if_pos hk]
      obtain ⟨B2, h1, h2, h3, h4⟩ := m163c (z := z) (ka := s + 3) (na := s + 4) (d := 150 + t) (e := 0) (c := 0) hL hu hI2 hl2 RRb (by omega) (by omega)
      have h1' : xF 163 [.ref 189, .int (nI (150 + t))] (xm z T R B0) (.inr none, xm z T R B2) := h1
      have hK := KA.rv (lo := s + 3) (hi := s + 5) (ka := s + 3) (na := s + 4) (i := 0) hI2 hu hl2 (by omega) (by omega) (by omega) (by omega) (by omega)
      have h2' : RR u (aRv u (s + 3) (s + 4) 0 C) B2 := h2
      have hres : ∃ B2', ((Sum.inr none : Nat ⊕ Option Value), xm z T R B2) = (.inr none, xm z T R B2') ∧ RR u (aRv u (s + 3) (s + 4) 0 C) B2' ∧ ((aRv u (s + 3) (s + 4) 0 C).1 102 2 = 4294967294 → TH u t (aRv u (s + 3) (s + 4) 0 C) B2') ∧ KB (50 * t) (50 * t + 50) (5 * t) (5 * t + 5) t (t + 1) 0 0 B B2' := by
        refine ⟨B2, rfl, h2', fun q => ?_, kkb.trans (h4.mono (by omega) (by omega) (by omega) (by omega))⟩
        have cr := h3 q 0 (by omega) (by omega)
        obtain ⟨v1, v2, v3⟩ := cr
        have e : ∀ j, (aRv u (s + 3) (s + 4) 0 C).1 s j = C.1 s j := fun j => hK.1 _ _ (by omega) (by omega) (by omega) (by omega)
        have b6 : ∀ a, 217 ≤ a → a ≤ 219 → B2.1 a t = B0.1 a t := fun a q1 q2 => h4.1 _ _ (by omega) (by omega) (by omega) (by omega) (by omega) (by omega)
        rw [hth]
        refine ⟨⟨by rw [e]; omega, by rw [e]; omega, fun q => by rw [e] at q; omega, fun q => by rw [e]; omega, by rw [e]; omega, fun _ => v3, fun k hk => by rw [e] at hk; omega⟩, ⟨?_, ⟨?_, fun q => by rw [e]; exact b3⟩, ?_, fun _ => ⟨v1, v2⟩, fun k hk => by rw [e] at hk; omega⟩, fun k hk => by rw [e] at hk; omega⟩
        · show B2.1 217 t = _
          rw [b6 _ (by omega) (by omega), w217, e, b2]
        · show B2.1 218 t = _
          rw [b6 _ (by omega) (by omega), w218, e, b3]
        · show B2.1 219 t = _
          rw [b6 _ (by omega) (by omega), w219, e, b4]
      refine xp_aload_n rfl rfl ?_
      refine xp_gfa rfl rfl (by decide) (by decide) (by first | assumption | exact hL.t rfl) (by first | assumption | exact hL.r rfl | exact hL.2.2.2.2.2) ?_
      refine xp_iload_n rfl rfl ?_
      refine xp_aload_n rfl rfl ?_
      refine xp_iconst (n := 0) rfl (by decide) ?_
      refine xp_iconst (n := 2) rfl (by decide) ?_
      refine xp_iconst (n := 1) rfl (by decide) ?_
      refine xp_iv rfl rfl (Nat.le_of_ble_eq_true rfl) (by decide) (by decide) (by decide) (Nat.le_of_ble_eq_true rfl) rfl (xrcv1 (by decide) (by first | assumption | exact hL.t rfl)) (g1) rfl ?_
      refine xp_iast rfl (by first | assumption | exact hL.t rfl) (by omega) (by omega) ?_
      refine xp_aload_n rfl rfl ?_
      refine xp_gfa rfl rfl (by decide) (by decide) (by first | assumption | exact hL.t rfl) (by first | assumption | exact hL.r rfl | exact hL.2.2.2.2.2) ?_
      refine xp_iload_n rfl rfl ?_
      refine xp_iconst (n := 0) rfl (by decide) ?_
      refine xp_iast rfl (by first | assumption | exact hL.t rfl) (by omega) (by omega) ?_
      refine xp_aload_n rfl rfl ?_
      refine xp_gfa rfl rfl (by decide) (by decide) (by first | assumption | exact hL.t rfl) (by first | assumption | exact hL.r rfl | exact hL.2.2.2.2.2) ?_
      refine xp_iload_n rfl rfl ?_
      refine xp_iconst (n := 0) rfl (by decide) ?_
      refine xp_iast rfl (by first | assumption | exact hL.t rfl) (by omega) (by omega) ?_
      rw [← hB0]
      refine xp_aload_n rfl rfl ?_
      refine xp_gfi rfl rfl (by decide) (by decide) (by first | assumption | exact hL.t rfl) ?_
      rw [h38b]
      refine xp_ifle 35 rfl (by decide) (by omega) (fun h31 => ?_) (fun h31 => ?_)
      · skip
        refine xp_aload_n rfl rfl ?_
        refine xp_gfa rfl rfl (by decide) (by decide) (by first | assumption | exact hL.t rfl) (by first | assumption | exact hL.r rfl | exact hL.2.2.2.2.2) ?_
        refine xp_iload_n rfl rfl ?_
        refine xp_iald rfl (by first | assumption | exact hL.t rfl) (by omega) (by omega) ?_
        rw [w217]
        refine xp_ifne 96 rfl (by decide) (by omega) (fun h41 => ?_) (fun h41 => ?_)
        · skip
          refine xp_aload_n rfl rfl ?_
          refine xp_gfa rfl rfl (by decide) (by decide) (by first | assumption | exact hL.t rfl) (by first | assumption | exact hL.r rfl | exact hL.2.2.2.2.2) ?_
          refine xp_iload_n rfl rfl ?_
          refine xp_iald rfl (by first | assumption | exact hL.t rfl) (by omega) (by omega) ?_
          refine xp_iconst (n := 1) rfl (by decide) ?_
          rw [w217]
          refine xp_icne 118 rfl (by decide) (by omega) (by omega) (fun h103 => ?_) (fun h103 => ?_)
          · exfalso; omega
          · skip
            refine xp_aload_n rfl rfl ?_
            refine xp_sipush (n := 150) rfl (by decide) ?_
            refine xp_iload_n rfl rfl ?_
            refine xp_iadd rfl ?_
            refine xp_iv rfl rfl (Nat.le_of_ble_eq_true rfl) (by decide) (by decide) (by decide) (Nat.le_of_ble_eq_true rfl) rfl (xrcv1 (by decide) (by first | assumption | exact hL.t rfl)) (h1') rfl ?_
            refine xp_goto 157 rfl (by decide) ?_
            refine xp_return rfl (by decide) (by decide) (by decide) ?_
            exact hres
        · exfalso; omega
      · exfalso; omega
    · rw [if_neg (by omega), if_pos hk]
      obtain ⟨x5, B5, g5, r5, l5, n5, m5, k5⟩ := m161k (z := z) (lo := 1) (hi := 31) hL hu hI2 RRb (by omega)
      have hin5 := aRb_in (lo := 1) (hi := 31) (A := C) (by omega)
      have hI5 := hI2.rb hu 1 31
      have hk0 := KA.re (lo := 0) (hi := 0) hI2 hu
      have hp4 := hI2.pl
      have fin : ∀ (D D2 : xQ) (y : Nat), RR u D D2 → KB (50 * t) (50 * t + 50) (5 * t) (5 * t + 5) t (t + 1) 0 0 B D2 → D.1 s 2 = 2 → D.1 s 3 = 0 → (D.1 102 2 = 4294967294 → D2.1 217 t = 2 ∧ D2.1 219 t = 0 ∧ x5 = y) → y < 32 → ∃ B2', ((Sum.inr none : Nat ⊕ Option Value), xm z T R (xsI D2 218 t x5)) = (.inr none, xm z T R B2') ∧ RR u (xsI D s 4 y) B2' ∧ ((xsI D s 4 y).1 102 2 = 4294967294 → TH u t (xsI D s 4 y) B2') ∧ KB (50 * t) (50 * t + 50) (5 * t) (5 * t + 5) t (t + 1) 0 0 B B2' := fun D D2 y y1 y2 y3 y4 y5 y6 => by
        refine ⟨_, rfl, y1.oth (fun a j q => xsI_ne (by omega)) (fun a j q => xsI_ne (by omega)) (fun o ho => by rw [xsI_ne (by omega)]; exact (y1.2.2.2.2.1 o ho).2), fun q => ?_, y2.trans ⟨fun a j _ _ _ _ q _ => xsI_ne (by omega), fun _ _ _ => rfl, fun j _ _ _ _ => xsI_ne (by omega), by rw [xsI_ne (by omega)]⟩⟩
        rw [xsI_ne (by omega)] at q
        obtain ⟨v1, v2, v3⟩ := y5 q
        have e2 : (xsI D s 4 y).1 s 2 = 2 := by rw [xsI_ne (by omega)]; exact y3
        have e3 : (xsI D s 4 y).1 s 3 = 0 := by rw [xsI_ne (by omega)]; exact y4
        have e4 : (xsI D s 4 y).1 s 4 = y := xsI_eq
        rw [hth]
        refine ⟨⟨by omega, by omega, fun q => by omega, fun q => by omega, by omega, fun q => by omega, fun k hk => by omega⟩, ⟨?_, ⟨?_, fun q => by omega⟩, ?_, fun q => by omega, fun k hk => by omega⟩, fun k hk => by omega⟩
        · show (xsI D2 218 t x5).1 217 t = _
          rw [xsI_ne (by omega), e2]; exact v1
        · show (xsI D2 218 t x5).1 218 t = _
          rw [xsI_eq, e4]; exact v3
        · show (xsI D2 218 t x5).1 219 t = _
          rw [xsI_ne (by omega), e3]; exact v2
      have kk5 : KB (50 * t) (50 * t + 50) (5 * t) (5 * t + 5) t (t + 1) 0 0 B B5 := kkb.trans k5.up
      have b5 : ∀ a, 217 ≤ a → a ≤ 219 → B5.1 a t = B0.1 a t := fun a q1 q2 => k5.1 _ _ (by omega) (by omega) (by omega) (by omega) (by omega) (by omega)
      have d2 : (aRb 1 31 C).2.1 s 2 = 2 := by rw [aRb_ne _ _ _ (by omega), b2]; exact hk
      have d3 : (aRb 1 31 C).2.1 s 3 = 0 := by rw [aRb_ne _ _ _ (by omega)]; exact b4
      have f217 : B5.1 217 t = 2 ∧ B5.1 219 t = 0 := ⟨by rw [b5 _ (by omega) (by omega), w217]; exact hk, by rw [b5 _ (by omega) (by omega)]; exact w219⟩
      unfold aRe
      by_cases hE5 : (aRb 1 31 C).2.1 102 2 = 4294967294
      · have gx := n5 hE5
        have t1 := (r5.2.2.2.2.2.1 hE5).1
        have e6 := (aRb_nf hE5 hp4).2.2.2.2.2
        by_cases hb : 7 < (aRb 1 31 C).1 ∧ (aRb 1 31 C).1 < 16
        · rw [if_pos hb]
          have hw := m160b (z := z) (B := B5) (p := C.1 102 4) (c := 1) hL t1
          have er : aRef (aRb 1 31 C).2 = xsI (aRb 1 31 C).2 102 2 (C.1 102 4) := by
            unfold aRef
            rw [if_pos hE5, show (aRb 1 31 C).2.1 102 4 = C.1 102 4 + 1 by rw [e6, xsI_eq]]
            rfl
          have n38 : (xsI (xsI B5 189 38 1) 189 37 (C.1 102 4)).1 189 38 = 1 := by rw [xsI_ne (by omega), xsI_eq]
          have hrr : RR u (aRef (aRb 1 31 C).2) (xsI (xsI B5 189 38 1) 189 37 (C.1 102 4)) := by
            rw [er]
            exact r5.mk' hu (fun a j q => xsI_ne (by omega)) (fun a j q => by rw [xsI_ne (by omega), xsI_ne (by omega)]) (by omega) (by rw [xsI_ne (by omega), xsI_ne (by omega)]; exact r5.2.2.2.1) (fun q => by rw [xsI_eq] at q; omega) (fun _ => ⟨by omega, by rw [xsI_eq, xsI_eq]⟩)
          have hkk : KB (50 * t) (50 * t + 50) (5 * t) (5 * t + 5) t (t + 1) 0 0 B (xsI (xsI B5 189 38 1) 189 37 (C.1 102 4)) := by
            refine kk5.trans ⟨fun a j q _ _ _ _ _ => by rw [xsI_ne (by omega), xsI_ne (by omega)], fun _ _ _ => rfl, fun j q1 q2 q3 q4 => by rw [xsI_ne (by omega), xsI_ne (by omega)], ?_⟩
            rw [n38, t1]
            omega
          have hres := fin _ _ (aRb 1 31 C).1 hrr hkk (by rw [aRef_ne (by omega)]; exact d2) (by rw [aRef_ne (by omega)]; exact d3) (fun q => absurd q (aRef_nf hI5.pl)) (by omega)
          refine xp_aload_n rfl rfl ?_
          refine xp_gfa rfl rfl (by decide) (by decide) (by first | assumption | exact hL.t rfl) (by first | assumption | exact hL.r rfl | exact hL.2.2.2.2.2) ?_
          refine xp_iload_n rfl rfl ?_
          refine xp_aload_n rfl rfl ?_
          refine xp_iconst (n := 0) rfl (by decide) ?_
          refine xp_iconst (n := 2) rfl (by decide) ?_
          refine xp_iconst (n := 1) rfl (by decide) ?_
          refine xp_iv rfl rfl (Nat.le_of_ble_eq_true rfl) (by decide) (by decide) (by decide) (Nat.le_of_ble_eq_true rfl) rfl (xrcv1 (by decide) (by first | assumption | exact hL.t rfl)) (g1) rfl ?_
          refine xp_iast rfl (by first | assumption | exact hL.t rfl) (by omega) (by omega) ?_
          refine xp_aload_n rfl rfl ?_
          refine xp_gfa rfl rfl (by decide) (by decide) (by first | assumption | exact hL.t rfl) (by first | assumption | exact hL.r rfl | exact hL.2.2.2.2.2) ?_
          refine xp_iload_n rfl rfl ?_
          refine xp_iconst (n := 0) rfl (by decide) ?_
          refine xp_iast rfl (by first | assumption | exact hL.t rfl) (by omega) (by omega) ?_
          refine xp_aload_n rfl rfl ?_
          refine xp_gfa rfl rfl (by decide) (by decide) (by first | assumption | exact hL.t rfl) (by first | assumption | exact hL.r rfl | exact hL.2.2.2.2.2) ?_
          refine xp_iload_n rfl rfl ?_
          refine xp_iconst (n := 0) rfl (by decide) ?_
          refine xp_iast rfl (by first | assumption | exact hL.t rfl) (by omega) (by omega) ?_
          rw [← hB0]
          refine xp_aload_n rfl rfl ?_
          refine xp_gfi rfl rfl (by decide) (by decide) (by first | assumption | exact hL.t rfl) ?_
          rw [h38b]
          refine xp_ifle 35 rfl (by decide) (by omega) (fun h31 => ?_) (fun h31 => ?_)
          · skip
            refine xp_aload_n rfl rfl ?_
            refine xp_gfa rfl rfl (by decide) (by decide) (by first | assumption | exact hL.t rfl) (by first | assumption | exact hL.r rfl | exact hL.2.2.2.2.2) ?_
            refine xp_iload_n rfl rfl ?_
            refine xp_iald rfl (by first | assumption | exact hL.t rfl) (by omega) (by omega) ?_
            rw [w217]
            refine xp_ifne 96 rfl (by decide) (by omega) (fun h41 => ?_) (fun h41 => ?_)
            · skip
              refine xp_aload_n rfl rfl ?_
              refine xp_gfa rfl rfl (by decide) (by decide) (by first | assumption | exact hL.t rfl) (by first | assumption | exact hL.r rfl | exact hL.2.2.2.2.2) ?_
              refine xp_iload_n rfl rfl ?_
              refine xp_iald rfl (by first | assumption | exact hL.t rfl) (by omega) (by omega) ?_
              refine xp_iconst (n := 1) rfl (by decide) ?_
              rw [w217]
              refine xp_icne 118 rfl (by decide) (by omega) (by omega) (fun h103 => ?_) (fun h103 => ?_)
              · skip
                refine xp_aload_n rfl rfl ?_
                refine xp_gfi rfl rfl (by decide) (by decide) (by first | assumption | exact hL.t rfl) ?_
                rw [s3]
                refine xp_istore_n rfl (by decide) ?_
                refine xp_aload_n rfl rfl ?_
                refine xp_iconst (n := 1) rfl (by decide) ?_
                refine xp_bipush (n := 31) rfl (by decide) ?_
                refine xp_iconst (n := 1) rfl (by decide) ?_
                refine xp_iv rfl rfl (Nat.le_of_ble_eq_true rfl) (by decide) (by decide) (by decide) (Nat.le_of_ble_eq_true rfl) rfl (xrcv1 (by decide) (by first | assumption | exact hL.t rfl)) (g5) rfl ?_
                refine xp_istore_n rfl (by decide) ?_
                refine xp_iload_n rfl rfl ?_
                refine xp_bipush (n := 7) rfl (by decide) ?_
                refine xp_icle 150 rfl (by decide) (by omega) (by omega) (fun h135 => ?_) (fun h135 => ?_)
                · exfalso; omega
                · skip
                  refine xp_iload_n rfl rfl ?_
                  refine xp_bipush (n := 16) rfl (by decide) ?_
                  refine xp_icge 150 rfl (by decide) (by omega) (by omega) (fun h141 => ?_) (fun h141 => ?_)
                  · exfalso; omega
                  · skip
                    refine xp_aload_n rfl rfl ?_
                    refine xp_iload_n rfl rfl ?_
                    refine xp_iconst (n := 1) rfl (by decide) ?_
                    refine xp_iv rfl rfl (Nat.le_of_ble_eq_true rfl) (by decide) (by decide) (by decide) (Nat.le_of_ble_eq_true rfl) rfl (xrcv1 (by decide) (by first | assumption | exact hL.t rfl)) (hw) rfl ?_
                    refine xp_aload_n rfl rfl ?_
                    refine xp_gfa rfl rfl (by decide) (by decide) (by first | assumption | exact hL.t rfl) (by first | assumption | exact hL.r rfl | exact hL.2.2.2.2.2) ?_
                    refine xp_iload_n rfl rfl ?_
                    refine xp_iload_n rfl rfl ?_
                    refine xp_iast rfl (by first | assumption | exact hL.t rfl) (by omega) (by omega) ?_
                    refine xp_return rfl (by decide) (by decide) (by decide) ?_
                    exact hres
              · exfalso; omega
            · exfalso; omega
          · exfalso; omega
        · rw [if_neg hb]
          have hres := fin _ _ (aRb 1 31 C).1 r5 kk5 d2 d3 (fun _ => ⟨f217.1, f217.2, gx⟩) (by omega)
          refine xp_aload_n rfl rfl ?_
          refine xp_gfa rfl rfl (by decide) (by decide) (by first | assumption | exact hL.t rfl) (by first | assumption | exact hL.r rfl | exact hL.2.2.2.2.2) ?_
          refine xp_iload_n rfl rfl ?_
          refine xp_aload_n rfl rfl ?_
          refine xp_iconst (n := 0) rfl (by decide) ?_
          refine xp_iconst (n := 2) rfl (by decide) ?_
          refine xp_iconst (n := 1) rfl (by decide) ?_
          refine xp_iv rfl rfl (Nat.le_of_ble_eq_true rfl) (by decide) (by decide) (by decide) (Nat.le_of_ble_eq_true rfl) rfl (xrcv1 (by decide) (by first | assumption | exact hL.t rfl)) (g1) rfl ?_
          refine xp_iast rfl (by first | assumption | exact hL.t rfl) (by omega) (by omega) ?_
          refine xp_aload_n rfl rfl ?_
          refine xp_gfa rfl rfl (by decide) (by decide) (by first | assumption | exact hL.t rfl) (by first | assumption | exact hL.r rfl | exact hL.2.2.2.2.2) ?_
          refine xp_iload_n rfl rfl ?_
          refine xp_iconst (n := 0) rfl (by decide) ?_
          refine xp_iast rfl (by first | assumption | exact hL.t rfl) (by omega) (by omega) ?_
          refine xp_aload_n rfl rfl ?_
          refine xp_gfa rfl rfl (by decide) (by decide) (by first | assumption | exact hL.t rfl) (by first | assumption | exact hL.r rfl | exact hL.2.2.2.2.2) ?_
          refine xp_iload_n rfl rfl ?_
          refine xp_iconst (n := 0) rfl (by decide) ?_
          refine xp_iast rfl (by first | assumption | exact hL.t rfl) (by omega) (by omega) ?_
          rw [← hB0]
          refine xp_aload_n rfl rfl ?_
          refine xp_gfi rfl rfl (by decide) (by decide) (by first | assumption | exact hL.t rfl) ?_
          rw [h38b]
          refine xp_ifle 35 rfl (by decide) (by omega) (fun h31 => ?_) (fun h31 => ?_)
          · skip
            refine xp_aload_n rfl rfl ?_
            refine xp_gfa rfl rfl (by decide) (by decide) (by first | assumption | exact hL.t rfl) (by first | assumption | exact hL.r rfl | exact hL.2.2.2.2.2) ?_
            refine xp_iload_n rfl rfl ?_
            refine xp_iald rfl (by first | assumption | exact hL.t rfl) (by omega) (by omega) ?_
            rw [w217]
            refine xp_ifne 96 rfl (by decide) (by omega) (fun h41 => ?_) (fun h41 => ?_)
            · skip
              refine xp_aload_n rfl rfl ?_
              refine xp_gfa rfl rfl (by decide) (by decide) (by first | assumption | exact hL.t rfl) (by first | assumption | exact hL.r rfl | exact hL.2.2.2.2.2) ?_
              refine xp_iload_n rfl rfl ?_
              refine xp_iald rfl (by first | assumption | exact hL.t rfl) (by omega) (by omega) ?_
              refine xp_iconst (n := 1) rfl (by decide) ?_
              rw [w217]
              refine xp_icne 118 rfl (by decide) (by omega) (by omega) (fun h103 => ?_) (fun h103 => ?_)
              · skip
                refine xp_aload_n rfl rfl ?_
                refine xp_gfi rfl rfl (by decide) (by decide) (by first | assumption | exact hL.t rfl) ?_
                rw [s3]
                refine xp_istore_n rfl (by decide) ?_
                refine xp_aload_n rfl rfl ?_
                refine xp_iconst (n := 1) rfl (by decide) ?_
                refine xp_bipush (n := 31) rfl (by decide) ?_
                refine xp_iconst (n := 1) rfl (by decide) ?_
                refine xp_iv rfl rfl (Nat.le_of_ble_eq_true rfl) (by decide) (by decide) (by decide) (Nat.le_of_ble_eq_true rfl) rfl (xrcv1 (by decide) (by first | assumption | exact hL.t rfl)) (g5) rfl ?_
                refine xp_istore_n rfl (by decide) ?_
                refine xp_iload_n rfl rfl ?_
                refine xp_bipush (n := 7) rfl (by decide) ?_
                refine xp_icle 150 rfl (by decide) (by omega) (by omega) (fun h135 => ?_) (fun h135 => ?_)
                · skip
                  refine xp_aload_n rfl rfl ?_
                  refine xp_gfa rfl rfl (by decide) (by decide) (by first | assumption | exact hL.t rfl) (by first | assumption | exact hL.r rfl | exact hL.2.2.2.2.2) ?_
                  refine xp_iload_n rfl rfl ?_
                  refine xp_iload_n rfl rfl ?_
                  refine xp_iast rfl (by first | assumption | exact hL.t rfl) (by omega) (by omega) ?_
                  refine xp_return rfl (by decide) (by decide) (by decide) ?_
                  exact hres
                · skip
                  refine xp_iload_n rfl rfl ?_
                  refine xp_bipush (n := 16) rfl (by decide) ?_
                  refine xp_icge 150 rfl (by decide) (by omega) (by omega) (fun h141 => ?_) (fun h141 => ?_)
                  · skip
                    refine xp_aload_n rfl rfl ?_
                    refine xp_gfa rfl rfl (by decide) (by decide) (by first | assumption | exact hL.t rfl) (by first | assumption | exact hL.r rfl | exact hL.2.2.2.2.2) ?_
                    refine xp_iload_n rfl rfl ?_
                    refine xp_iload_n rfl rfl ?_
                    refine xp_iast rfl (by first | assumption | exact hL.t rfl) (by omega) (by omega) ?_
                    refine xp_return rfl (by decide) (by decide) (by decide) ?_
                    exact hres
                  · exfalso; omega
              · exfalso; omega
            · exfalso; omega
          · exfalso; omega
      · have gx := m5 hE5
        have t1 := r5.2.2.2.2.2.2 hE5
        have t2 := r5.2.2.1
        have hw := m160a (z := z) (B := B5) (p := C.1 102 4) (c := 1) hL t1.1 t2
        have e1 : (aRb 1 31 C).1 = 1 := by
          unfold aRb at hE5 ⊢
          rw [if_pos hE] at hE5 ⊢
          by_cases q : C.1 102 4 < C.1 99 1 ∧ 1 ≤ C.1 100 (C.1 102 4) ∧ C.1 100 (C.1 102 4) ≤ 31
          · rw [if_pos q] at hE5
            exact absurd (by show (xsI C 102 4 _).1 102 2 = _; rw [xsI_ne (by omega)]; exact hE) hE5
          · rw [if_neg q]
        rw [if_neg (by omega)]
        have hres := fin _ _ (aRb 1 31 C).1 r5 kk5 d2 d3 (fun q => absurd q hE5) (by omega)
        refine xp_aload_n rfl rfl ?_
        refine xp_gfa rfl rfl (by decide) (by decide) (by first | assumption | exact hL.t rfl) (by first | assumption | exact hL.r rfl | exact hL.2.2.2.2.2) ?_
        refine xp_iload_n rfl rfl ?_
        refine xp_aload_n rfl rfl ?_
        refine xp_iconst (n := 0) rfl (by decide) ?_
        refine xp_iconst (n := 2) rfl (by decide) ?_
        refine xp_iconst (n := 1) rfl (by decide) ?_
        refine xp_iv rfl rfl (Nat.le_of_ble_eq_true rfl) (by decide) (by decide) (by decide) (Nat.le_of_ble_eq_true rfl) rfl (xrcv1 (by decide) (by first | assumption | exact hL.t rfl)) (g1) rfl ?_
        refine xp_iast rfl (by first | assumption | exact hL.t rfl) (by omega) (by omega) ?_
        refine xp_aload_n rfl rfl ?_
        refine xp_gfa rfl rfl (by decide) (by decide) (by first | assumption | exact hL.t rfl) (by first | assumption | exact hL.r rfl | exact hL.2.2.2.2.2) ?_
        refine xp_iload_n rfl rfl ?_
        refine xp_iconst (n := 0) rfl (by decide) ?_
        refine xp_iast rfl (by first | assumption | exact hL.t rfl) (by omega) (by omega) ?_
        refine xp_aload_n rfl rfl ?_
        refine xp_gfa rfl rfl (by decide) (by decide) (by first | assumption | exact hL.t rfl) (by first | assumption | exact hL.r rfl | exact hL.2.2.2.2.2) ?_
        refine xp_iload_n rfl rfl ?_
        refine xp_iconst (n := 0) rfl (by decide) ?_
        refine xp_iast rfl (by first | assumption | exact hL.t rfl) (by omega) (by omega) ?_
        rw [← hB0]
        refine xp_aload_n rfl rfl ?_
        refine xp_gfi rfl rfl (by decide) (by decide) (by first | assumption | exact hL.t rfl) ?_
        rw [h38b]
        refine xp_ifle 35 rfl (by decide) (by omega) (fun h31 => ?_) (fun h31 => ?_)
        · skip
          refine xp_aload_n rfl rfl ?_
          refine xp_gfa rfl rfl (by decide) (by decide) (by first | assumption | exact hL.t rfl) (by first | assumption | exact hL.r rfl | exact hL.2.2.2.2.2) ?_
          refine xp_iload_n rfl rfl ?_
          refine xp_iald rfl (by first | assumption | exact hL.t rfl) (by omega) (by omega) ?_
          rw [w217]
          refine xp_ifne 96 rfl (by decide) (by omega) (fun h41 => ?_) (fun h41 => ?_)
          · skip
            refine xp_aload_n rfl rfl ?_
            refine xp_gfa rfl rfl (by decide) (by decide) (by first | assumption | exact hL.t rfl) (by first | assumption | exact hL.r rfl | exact hL.2.2.2.2.2) ?_
            refine xp_iload_n rfl rfl ?_
            refine xp_iald rfl (by first | assumption | exact hL.t rfl) (by omega) (by omega) ?_
            refine xp_iconst (n := 1) rfl (by decide) ?_
            rw [w217]
            refine xp_icne 118 rfl (by decide) (by omega) (by omega) (fun h103 => ?_) (fun h103 => ?_)
            · skip
              refine xp_aload_n rfl rfl ?_
              refine xp_gfi rfl rfl (by decide) (by decide) (by first | assumption | exact hL.t rfl) ?_
              rw [s3]
              refine xp_istore_n rfl (by decide) ?_
              refine xp_aload_n rfl rfl ?_
              refine xp_iconst (n := 1) rfl (by decide) ?_
              refine xp_bipush (n := 31) rfl (by decide) ?_
              refine xp_iconst (n := 1) rfl (by decide) ?_
              refine xp_iv rfl rfl (Nat.le_of_ble_eq_true rfl) (by decide) (by decide) (by decide) (Nat.le_of_ble_eq_true rfl) rfl (xrcv1 (by decide) (by first | assumption | exact hL.t rfl)) (g5) rfl ?_
              refine xp_istore_n rfl (by decide) ?_
              refine xp_iload_n rfl rfl ?_
              refine xp_bipush (n := 7) rfl (by decide) ?_
              refine xp_icle 150 rfl (by decide) (by omega) (by omega) (fun h135 => ?_) (fun h135 => ?_)
              · skip
                refine xp_aload_n rfl rfl ?_
                refine xp_gfa rfl rfl (by decide) (by decide) (by first | assumption | exact hL.t rfl) (by first | assumption | exact hL.r rfl | exact hL.2.2.2.2.2) ?_
                refine xp_iload_n rfl rfl ?_
                refine xp_iload_n rfl rfl ?_
                refine xp_iast rfl (by first | assumption | exact hL.t rfl) (by omega) (by omega) ?_
                refine xp_return rfl (by decide) (by decide) (by decide) ?_
                exact hres
              · skip
                refine xp_iload_n rfl rfl ?_
                refine xp_bipush (n := 16) rfl (by decide) ?_
                refine xp_icge 150 rfl (by decide) (by omega) (by omega) (fun h141 => ?_) (fun h141 => ?_)
                · skip
                  refine xp_aload_n rfl rfl ?_
                  refine xp_gfa rfl rfl (by decide) (by decide) (by first | assumption | exact hL.t rfl) (by first | assumption | exact hL.r rfl | exact hL.2.2.2.2.2) ?_
                  refine xp_iload_n rfl rfl ?_
                  refine xp_iload_n rfl rfl ?_
                  refine xp_iast rfl (by first | assumption | exact hL.t rfl) (by omega) (by omega) ?_
                  refine xp_return rfl (by decide) (by decide) (by decide) ?_
                  exact hres
                · exfalso; omega
            · exfalso; omega
          · exfalso; omega
        · exfalso; omega
  · have h38b := (RRb.2.2.2.2.2.2 hE).1
    have hres : ∃ B2', ((Sum.inr none : Nat ⊕ Option Value), xm z T R B0) = (.inr none, xm z T R B2') ∧ RR u (aRst u s A) B2' ∧ ((aRst u s A).1 102 2 = 4294967294 → TH u t (aRst u s A) B2') ∧ KB (50 * t) (50 * t + 50) (5 * t) (5 * t + 5) t (t + 1) 0 0 B B2' := ⟨B0, rfl, RRb.ka hE hrs2 hu (by omega), fun q => absurd (hrs2.nf q) hE, kkb⟩
    refine xp_aload_n rfl rfl ?_
    refine xp_gfa rfl rfl (by decide) (by decide) (by first | assumption | exact hL.t rfl) (by first | assumption | exact hL.r rfl | exact hL.2.2.2.2.2) ?_
    refine xp_iload_n rfl rfl ?_
    refine xp_aload_n rfl rfl ?_
    refine xp_iconst (n := 0) rfl (by decide) ?_
    refine xp_iconst (n := 2) rfl (by decide) ?_
    refine xp_iconst (n := 1) rfl (by decide) ?_
    refine xp_iv rfl rfl (Nat.le_of_ble_eq_true rfl) (by decide) (by decide) (by decide) (Nat.le_of_ble_eq_true rfl) rfl (xrcv1 (by decide) (by first | assumption | exact hL.t rfl)) (g1) rfl ?_
    refine xp_iast rfl (by first | assumption | exact hL.t rfl) (by omega) (by omega) ?_
    refine xp_aload_n rfl rfl ?_
    refine xp_gfa rfl rfl (by decide) (by decide) (by first | assumption | exact hL.t rfl) (by first | assumption | exact hL.r rfl | exact hL.2.2.2.2.2) ?_
    refine xp_iload_n rfl rfl ?_
    refine xp_iconst (n := 0) rfl (by decide) ?_
    refine xp_iast rfl (by first | assumption | exact hL.t rfl) (by omega) (by omega) ?_
    refine xp_aload_n rfl rfl ?_
    refine xp_gfa rfl rfl (by decide) (by decide) (by first | assumption | exact hL.t rfl) (by first | assumption | exact hL.r rfl | exact hL.2.2.2.2.2) ?_
    refine xp_iload_n rfl rfl ?_
    refine xp_iconst (n := 0) rfl (by decide) ?_
    refine xp_iast rfl (by first | assumption | exact hL.t rfl) (by omega) (by omega) ?_
    rw [← hB0]
    refine xp_aload_n rfl rfl ?_
    refine xp_gfi rfl rfl (by decide) (by decide) (by first | assumption | exact hL.t rfl) ?_
    refine xp_ifle 35 rfl (by decide) (by omega) (fun h31 => ?_) (fun h31 => ?_)
    · exfalso; omega
    · skip
      refine xp_return rfl (by decide) (by decide) (by decide) ?_
      exact hres
