-- load: the reference's objects
/-- an object is the same on both sides -/
def OB (u o : Nat) (A B : xQ) : Prop := OOk u A o ∧ (A.1 (u + 3) o = 4 → B.1 226 o = A.1 (u + 4) o ∧ B.1 227 o = A.1 (u + 5) o) ∧ A.1 (u + 3) o ≠ 0 ∧ ∀ i, i < A.1 (u + 5) o → B.1 224 (160 + 3 * o + i) = A.1 (u + 7) (o * 3 + i) ∧ B.2 228 (160 + 3 * o + i) = A.2 (u + 8) (o * 3 + i)
theorem OB.keep {u o : Nat} {A A2 B B2 : xQ} (h : OB u o A B) (hI : CI u A) (ho : o < A.1 (u + 2) 4) (hk : ∀ o, o < A.1 (u + 2) 4 → A2.1 (u + 3) o = A.1 (u + 3) o) (h1 : A2.1 (u + 4) o = A.1 (u + 4) o) (h2 : A2.1 (u + 5) o = A.1 (u + 5) o) (h3 : ∀ i, i < 3 → A2.1 (u + 7) (o * 3 + i) = A.1 (u + 7) (o * 3 + i)) (h4 : ∀ i, i < 3 → A2.2 (u + 8) (o * 3 + i) = A.2 (u + 8) (o * 3 + i)) (g1 : ∀ a, 226 ≤ a → a ≤ 227 → B2.1 a o = B.1 a o) (g2 : ∀ i, i < 3 → B2.1 224 (160 + 3 * o + i) = B.1 224 (160 + 3 * o + i)) (g3 : ∀ i, i < 3 → B2.2 228 (160 + 3 * o + i) = B.2 228 (160 + 3 * o + i)) : OB u o A2 B2 := by
  obtain ⟨f1, f2, f3, f4⟩ := h
  have e3 := hk o ho
  have hz := f1.sz f3
  obtain ⟨p1, p2, p3, p4⟩ := f1
  refine ⟨⟨by rw [e3]; exact p1, by rw [e3, h2]; exact p2, by rw [e3, h1, h2]; exact p3, fun q j hj => ?_⟩, by rw [e3, h1, h2, g1 _ (by omega) (by omega), g1 _ (by omega) (by omega)]; exact f2, by rw [e3]; exact f3, fun i hi => ?_⟩
  · rw [h2] at hj
    have v : VV u A (A.1 (u + 7) (o * 3 + j)) (A.2 (u + 8) (o * 3 + j)) := p4 f3 j hj
    show VV u A2 (A2.1 (u + 7) (o * 3 + j)) (A2.2 (u + 8) (o * 3 + j))
    rw [h3 j (by omega), h4 j (by omega)]
    exact v.ka hI hk
  · rw [h2] at hi
    rw [h3 i (by omega), h4 i (by omega), g2 i (by omega), g3 i (by omega)]
    exact f4 i hi
theorem KO.rob2 {u o : Nat} {A : xQ} (h : CI u A) (hu : u = 12 ∨ u = 103) (hl : 1 ≤ A.1 102 5) : KO u o (aRb (A.1 (u + 3) o) (A.1 (u + 3) o) A).2 (aRob u o A) := by
  have h1 := KA.rb (lo := 0) (hi := 0) h hu (A.1 (u + 3) o) (A.1 (u + 3) o)
  have hl1 := h1.l hl
  unfold aRob
  split
  · rename_i h4
    rw [h4] at h1 hl1 ⊢
    have h2 := KA.rb (lo := 0) (hi := 0) h1.ci hu 0 5
    have h3 := KA.rb (lo := 0) (hi := 0) h2.ci hu 0 2
    have a1 : KO u o (aRb 4 4 A).2 (oZ A).2 := (h2.trans h3).toO
    have a2 := KO.shape (o := o) (fn := (oY A).1) (sz := (oZ A).1) a1.ci hu
    rw [oZ_3 o hu, h4] at a2
    have a12 := a1.trans a2
    have := oZ_in (A := A)
    exact a12.trans (KO.rvs hu _ _ _ (Nat.le_refl _) (by omega) a12.ci (a12.l hl1))
  · have a2 := KO.shape (o := o) (fn := 0) (sz := 3) h1.ci hu
    rw [aRb_ne _ _ _ (by omega)] at a2
    exact a2.trans (KO.rvs hu _ _ _ (Nat.le_refl _) (by omega) a2.ci (a2.l hl1))
theorem RR.ko {u o : Nat} {A A2 B : xQ} (h : RR u A B) (hf : ¬ A.1 102 2 = 4294967294) (hK : KO u o A A2) (hu : u = 12 ∨ u = 103) : RR u A2 B := h.fl hf (hK.1 _ _ (by omega) (by omega) (by omega) (by omega) (by omega)) (fun i => hK.1 _ _ (by omega) (by omega) (by omega) (by omega) (by omega)) (hK.2.2.2.2.2.1 hf)
theorem l166z {z : Nat} {T : Nat → Option xT} {R : Nat → Nat → Option Nat} {w o b : Nat} {Q : xR → Prop} (hL : xLay T R w) (ho : o < 24) : ∀ (m i : Nat) (B : xQ), i + m = 3 → (∀ B2, (∀ a j, (a ≠ 224 ∨ j < 160 + 3 * o ∨ 163 + 3 * o ≤ j) → B2.1 a j = B.1 a j) → (∀ a j, (a ≠ 228 ∨ j < 160 + 3 * o ∨ 163 + 3 * o ≤ j) → B2.2 a j = B.2 a j) → xP 166 129 [(0, .ref 189), (1, .int (nI o)), (3, .int (nI b))] [] 0 0 (xm z T R B2) Q) → xP 166 85 [(0, .ref 189), (1, .int (nI o)), (3, .int (nI b)), (4, .int (nI i))] [] 0 0 (xm z T R B) Q := by
  intro m
  induction m with
  | zero =>
    intro i B hi hQ
    have hQ2 := hQ B (fun _ _ _ => rfl) (fun _ _ _ => rfl)
    refine xp_iload rfl rfl ?_
    refine xp_iconst (n := 3) rfl (by decide) ?_
    refine xp_icge 129 rfl (by decide) (by omega) (by omega) (fun h88 => ?_) (fun h88 => ?_)
    · skip
      refine xp_weak [(0, .ref 189), (1, .int (nI o)), (3, .int (nI b))] (xle_cons rfl (xle_cons rfl (xle_cons rfl (xle_nil _)))) (by simp [xnd]) ?_
      exact hQ2
    · exfalso; omega
  | succ m ih =>
    intro i B hi hQ
    have hih := ih (i + 1) (xsJ (xsI B 224 (160 + 3 * o + i) 0) 228 (160 + 3 * o + i) 0) (by omega) (fun B2 h1 h2 => hQ B2 (fun a j q => (h1 a j q).trans (by show (xsI B 224 (160 + 3 * o + i) 0).1 a j = _; exact xsI_ne (by omega))) (fun a j q => (h2 a j q).trans (xsJ_ne (by omega))))
    refine xp_iload rfl rfl ?_
    refine xp_iconst (n := 3) rfl (by decide) ?_
    refine xp_icge 129 rfl (by decide) (by omega) (by omega) (fun h88 => ?_) (fun h88 => ?_)
    · exfalso; omega
    · skip
      refine xp_aload_n rfl rfl ?_
      refine xp_gfa rfl rfl (by decide) (by decide) (by first | assumption | exact hL.t rfl) (by first | assumption | exact hL.r rfl | exact hL.2.2.2.2.2) ?_
      refine xp_sipush (n := 160) rfl (by decide) ?_
      refine xp_iconst (n := 3) rfl (by decide) ?_
      refine xp_iload_n rfl rfl ?_
      refine xp_imul rfl ?_
      refine xp_iadd rfl ?_
      refine xp_iload rfl rfl ?_
      refine xp_iadd rfl ?_
      refine xp_iconst (n := 0) rfl (by decide) ?_
      refine xp_iast rfl (by first | assumption | exact hL.t rfl) (by omega) (by omega) ?_
      refine xp_aload_n rfl rfl ?_
      refine xp_gfa rfl rfl (by decide) (by decide) (by first | assumption | exact hL.t rfl) (by first | assumption | exact hL.r rfl | exact hL.2.2.2.2.2) ?_
      refine xp_sipush (n := 160) rfl (by decide) ?_
      refine xp_iconst (n := 3) rfl (by decide) ?_
      refine xp_iload_n rfl rfl ?_
      refine xp_imul rfl ?_
      refine xp_iadd rfl ?_
      refine xp_iload rfl rfl ?_
      refine xp_iadd rfl ?_
      refine xp_lconst (v := 0) rfl rfl ?_
      refine xp_last rfl (by first | assumption | exact hL.t rfl) (by omega) (by omega) ?_
      refine xp_iinc rfl rfl (by decide) (nI_inc _) ?_
      refine xp_goto 85 rfl (by decide) ?_
      refine xp_weak [(0, .ref 189), (1, .int (nI o)), (3, .int (nI b)), (4, .int (nI (i + 1)))] (xle_cons rfl (xle_cons rfl (xle_cons rfl (xle_cons rfl (xle_nil _))))) (by simp [xnd]) ?_
      exact hih
theorem l166v {z : Nat} {T : Nat → Option xT} {R : Nat → Nat → Option Nat} {w u o b n : Nat} (hL : xLay T R w) (hu : u = 12 ∨ u = 103) (ho : o < 24) (hbn : (b = 3 ∧ n = 3) ∨ (b = 4 ∧ n ≤ 2)) : ∀ (m i : Nat) (A B : xQ), i + m = n → CI u A → 1 ≤ A.1 102 5 → RR u A B → B.1 227 o < 256 → (b = 4 → B.1 227 o = n) → (A.1 102 2 = 4294967294 → CR u (u + 7) (u + 8) (160 + 3 * o) (o * 3) 0 i A B) → xP 166 132 [(0, .ref 189), (1, .int (nI o)), (3, .int (nI b)), (4, .int (nI i))] [] 0 0 (xm z T R B) (fun r => ∃ B2, r = (.inr none, xm z T R B2) ∧ RR u (xit (aRv u (u + 7) (u + 8)) m (o * 3 + i) A) B2 ∧ KB (160 + 3 * o) (163 + 3 * o) 0 0 0 0 0 0 B B2 ∧ ((xit (aRv u (u + 7) (u + 8)) m (o * 3 + i) A).1 102 2 = 4294967294 → CR u (u + 7) (u + 8) (160 + 3 * o) (o * 3) 0 n (xit (aRv u (u + 7) (u + 8)) m (o * 3 + i) A) B2)) := by
  intro m
  induction m with
  | zero =>
    intro i A B hi hI hl hR hb hd hC
    have e4 : i = n := by omega
    subst e4
    have h38 := hR.2.2.1
    have hres : ∃ B2, ((Sum.inr none : Nat ⊕ Option Value), xm z T R B) = (.inr none, xm z T R B2) ∧ RR u A B2 ∧ KB (160 + 3 * o) (163 + 3 * o) 0 0 0 0 0 0 B B2 ∧ (A.1 102 2 = 4294967294 → CR u (u + 7) (u + 8) (160 + 3 * o) (o * 3) 0 i A B2) := ⟨B, rfl, hR, KB.refl B, hC⟩
    refine xp_iload rfl rfl ?_
    refine xp_iload_n rfl rfl ?_
    refine xp_iconst (n := 3) rfl (by decide) ?_
    refine xp_icne 143 rfl (by decide) (by omega) (by omega) (fun h136 => ?_) (fun h136 => ?_)
    · skip
      refine xp_aload_n rfl rfl ?_
      refine xp_gfa rfl rfl (by decide) (by decide) (by first | assumption | exact hL.t rfl) (by first | assumption | exact hL.r rfl | exact hL.2.2.2.2.2) ?_
      refine xp_iload_n rfl rfl ?_
      refine xp_iald rfl (by first | assumption | exact hL.t rfl) (by omega) (by omega) ?_
      first | rw [hd (by omega)] | skip
      refine xp_icge 179 rfl (by decide) (by omega) (by omega) (fun h149 => ?_) (fun h149 => ?_)
      · skip
        refine xp_return rfl (by decide) (by decide) (by decide) ?_
        exact hres
      · exfalso; omega
    · skip
      refine xp_iconst (n := 3) rfl (by decide) ?_
      refine xp_goto 149 rfl (by decide) ?_
      first | rw [hd (by omega)] | skip
      refine xp_icge 179 rfl (by decide) (by omega) (by omega) (fun h149 => ?_) (fun h149 => ?_)
      · skip
        refine xp_return rfl (by decide) (by decide) (by decide) ?_
        exact hres
      · exfalso; omega
  | succ m ih =>
    intro i A B hi hI hl hR hb hd hC
    have h38 := hR.2.2.1
    by_cases hE : A.1 102 2 = 4294967294
    · have h38b := (hR.2.2.2.2.2.1 hE).1
      obtain ⟨B1, g1, g2, g3, g4⟩ := m163c (z := z) (ka := u + 7) (na := u + 8) (d := 160 + 3 * o) (e := o * 3) (c := i) hL hu hI hl hR (by omega) (by omega)
      have hK := KO.rv (o := o) (i := o * 3 + i) hI hu hl (by omega) (by omega)
      have e227 : B1.1 227 o = B.1 227 o := g4.1 _ _ (by omega) (by omega) (by omega) (by omega) (by omega) (by omega)
      have hih := ih (i + 1) (aRv u (u + 7) (u + 8) (o * 3 + i) A) B1 (by omega) hK.ci (hK.l hl) g2 (by omega) (fun q => by rw [e227]; exact hd q) (fun q => by
        have c1 := (hC (hK.nf q)).rv (B2 := B1) (i := o * 3 + i) hu hI hl (by omega) (by omega) (fun c q1 q2 => g4.1 224 _ (by omega) (by omega) (by omega) (by omega) (by omega) (by omega)) (fun c q1 q2 => g4.2.1 228 _ (by omega))
        intro c q1 q2
        by_cases e : c = i
        · exact g3 q c (by omega) (by omega)
        · exact c1 c q1 (by omega))
      have hih2 : xP 166 132 [(0, .ref 189), (1, .int (nI o)), (3, .int (nI b)), (4, .int (nI (i + 1)))] [] 0 0 (xm z T R B1) (fun r => ∃ B2, r = (.inr none, xm z T R B2) ∧ RR u (xit (aRv u (u + 7) (u + 8)) (m + 1) (o * 3 + i) A) B2 ∧ KB (160 + 3 * o) (163 + 3 * o) 0 0 0 0 0 0 B B2 ∧ ((xit (aRv u (u + 7) (u + 8)) (m + 1) (o * 3 + i) A).1 102 2 = 4294967294 → CR u (u + 7) (u + 8) (160 + 3 * o) (o * 3) 0 n (xit (aRv u (u + 7) (u + 8)) (m + 1) (o * 3 + i) A) B2)) := by
        obtain ⟨r, k1, B2, k2, k3, k4, k5⟩ := hih
        exact ⟨r, k1, B2, k2, k3, (g4.mono (by omega) (by omega) (by omega) (by omega)).trans k4, k5⟩
      refine xp_iload rfl rfl ?_
      refine xp_iload_n rfl rfl ?_
      refine xp_iconst (n := 3) rfl (by decide) ?_
      refine xp_icne 143 rfl (by decide) (by omega) (by omega) (fun h136 => ?_) (fun h136 => ?_)
      · skip
        refine xp_aload_n rfl rfl ?_
        refine xp_gfa rfl rfl (by decide) (by decide) (by first | assumption | exact hL.t rfl) (by first | assumption | exact hL.r rfl | exact hL.2.2.2.2.2) ?_
        refine xp_iload_n rfl rfl ?_
        refine xp_iald rfl (by first | assumption | exact hL.t rfl) (by omega) (by omega) ?_
        first | rw [hd (by omega)] | skip
        refine xp_icge 179 rfl (by decide) (by omega) (by omega) (fun h149 => ?_) (fun h149 => ?_)
        · exfalso; omega
        · skip
          refine xp_aload_n rfl rfl ?_
          refine xp_gfi rfl rfl (by decide) (by decide) (by first | assumption | exact hL.t rfl) ?_
          rw [h38b]
          refine xp_ifne 179 rfl (by decide) (by omega) (fun h156 => ?_) (fun h156 => ?_)
          · exfalso; omega
          · skip
            refine xp_aload_n rfl rfl ?_
            refine xp_sipush (n := 160) rfl (by decide) ?_
            refine xp_iconst (n := 3) rfl (by decide) ?_
            refine xp_iload_n rfl rfl ?_
            refine xp_imul rfl ?_
            refine xp_iadd rfl ?_
            refine xp_iload rfl rfl ?_
            refine xp_iadd rfl ?_
            refine xp_iv rfl rfl (Nat.le_of_ble_eq_true rfl) (by decide) (by decide) (by decide) (Nat.le_of_ble_eq_true rfl) rfl (xrcv1 (by decide) (by first | assumption | exact hL.t rfl)) (g1) rfl ?_
            refine xp_iinc rfl rfl (by decide) (nI_inc _) ?_
            refine xp_goto 132 rfl (by decide) ?_
            refine xp_weak [(0, .ref 189), (1, .int (nI o)), (3, .int (nI b)), (4, .int (nI (i + 1)))] (xle_cons rfl (xle_cons rfl (xle_cons rfl (xle_cons rfl (xle_nil _))))) (by simp [xnd]) ?_
            exact hih2
      · skip
        refine xp_iconst (n := 3) rfl (by decide) ?_
        refine xp_goto 149 rfl (by decide) ?_
        first | rw [hd (by omega)] | skip
        refine xp_icge 179 rfl (by decide) (by omega) (by omega) (fun h149 => ?_) (fun h149 => ?_)
        · exfalso; omega
        · skip
          refine xp_aload_n rfl rfl ?_
          refine xp_gfi rfl rfl (by decide) (by decide) (by first | assumption | exact hL.t rfl) ?_
          rw [h38b]
          refine xp_ifne 179 rfl (by decide) (by omega) (fun h156 => ?_) (fun h156 => ?_)
          · exfalso; omega
          · skip
            refine xp_aload_n rfl rfl ?_
            refine xp_sipush (n := 160) rfl (by decide) ?_
            refine xp_iconst (n := 3) rfl (by decide) ?_
            refine xp_iload_n rfl rfl ?_
            refine xp_imul rfl ?_
            refine xp_iadd rfl ?_
            refine xp_iload rfl rfl ?_
            refine xp_iadd rfl ?_
            refine xp_iv rfl rfl (Nat.le_of_ble_eq_true rfl) (by decide) (by decide) (by decide) (Nat.le_of_ble_eq_true rfl) rfl (xrcv1 (by decide) (by first | assumption | exact hL.t rfl)) (g1) rfl ?_
            refine xp_iinc rfl rfl (by decide) (nI_inc _) ?_
            refine xp_goto 132 rfl (by decide) ?_
            refine xp_weak [(0, .ref 189), (1, .int (nI o)), (3, .int (nI b)), (4, .int (nI (i + 1)))] (xle_cons rfl (xle_cons rfl (xle_cons rfl (xle_cons rfl (xle_nil _))))) (by simp [xnd]) ?_
            exact hih2
    · have h38b := (hR.2.2.2.2.2.2 hE).1
      have hK := KO.rvs (o := o) hu (m + 1) (o * 3 + i) A (by omega) (by omega) hI hl
      have hres : ∃ B2, ((Sum.inr none : Nat ⊕ Option Value), xm z T R B) = (.inr none, xm z T R B2) ∧ RR u (xit (aRv u (u + 7) (u + 8)) (m + 1) (o * 3 + i) A) B2 ∧ KB (160 + 3 * o) (163 + 3 * o) 0 0 0 0 0 0 B B2 ∧ ((xit (aRv u (u + 7) (u + 8)) (m + 1) (o * 3 + i) A).1 102 2 = 4294967294 → CR u (u + 7) (u + 8) (160 + 3 * o) (o * 3) 0 n (xit (aRv u (u + 7) (u + 8)) (m + 1) (o * 3 + i) A) B2) := ⟨B, rfl, hR.ko hE hK hu, KB.refl B, fun q => absurd (hK.nf q) hE⟩
      refine xp_iload rfl rfl ?_
      refine xp_iload_n rfl rfl ?_
      refine xp_iconst (n := 3) rfl (by decide) ?_
      refine xp_icne 143 rfl (by decide) (by omega) (by omega) (fun h136 => ?_) (fun h136 => ?_)
      · skip
        refine xp_aload_n rfl rfl ?_
        refine xp_gfa rfl rfl (by decide) (by decide) (by first | assumption | exact hL.t rfl) (by first | assumption | exact hL.r rfl | exact hL.2.2.2.2.2) ?_
        refine xp_iload_n rfl rfl ?_
        refine xp_iald rfl (by first | assumption | exact hL.t rfl) (by omega) (by omega) ?_
        first | rw [hd (by omega)] | skip
        refine xp_icge 179 rfl (by decide) (by omega) (by omega) (fun h149 => ?_) (fun h149 => ?_)
        · exfalso; omega
        · skip
          refine xp_aload_n rfl rfl ?_
          refine xp_gfi rfl rfl (by decide) (by decide) (by first | assumption | exact hL.t rfl) ?_
          refine xp_ifne 179 rfl (by decide) (by omega) (fun h156 => ?_) (fun h156 => ?_)
          · skip
            refine xp_return rfl (by decide) (by decide) (by decide) ?_
            exact hres
          · exfalso; omega
      · skip
        refine xp_iconst (n := 3) rfl (by decide) ?_
        refine xp_goto 149 rfl (by decide) ?_
        first | rw [hd (by omega)] | skip
        refine xp_icge 179 rfl (by decide) (by omega) (by omega) (fun h149 => ?_) (fun h149 => ?_)
        · exfalso; omega
        · skip
          refine xp_aload_n rfl rfl ?_
          refine xp_gfi rfl rfl (by decide) (by decide) (by first | assumption | exact hL.t rfl) ?_
          refine xp_ifne 179 rfl (by decide) (by omega) (fun h156 => ?_) (fun h156 => ?_)
          · skip
            refine xp_return rfl (by decide) (by decide) (by decide) ?_
            exact hres
          · exfalso; omega
theorem l166f {z : Nat} {T : Nat → Option xT} {R : Nat → Nat → Option Nat} {D B : xQ} {w u o b : Nat} (hL : xLay T R w) (hu : u = 12 ∨ u = 103) (ho : o < 24) (hI : CI u D) (hR : RR u D B) (hE : ¬ D.1 102 2 = 4294967294) (hb : b < 256) : xP 166 44 [(0, .ref 189), (1, .int (nI o)), (3, .int (nI b))] [] 0 0 (xm z T R B) (fun r => ∃ B2, r = (.inr none, xm z T R B2) ∧ RR u D B2 ∧ KB (160 + 3 * o) (163 + 3 * o) 0 0 0 0 o (o + 1) B B2) := by
  have go : ∀ B1, RR u D B1 → KB (160 + 3 * o) (163 + 3 * o) 0 0 0 0 o (o + 1) B B1 → B1.1 227 o < 256 → xP 166 85 [(0, .ref 189), (1, .int (nI o)), (3, .int (nI b)), (4, .int (nI 0))] [] 0 0 (xm z T R B1) (fun r => ∃ B2, r = (.inr none, xm z T R B2) ∧ RR u D B2 ∧ KB (160 + 3 * o) (163 + 3 * o) 0 0 0 0 o (o + 1) B B2) := fun B1 h1 h2 h3 => by
    refine l166z hL ho 3 0 B1 (by omega) (fun B2 k1 k2 => ?_)
    have h4 : RR u D B2 := h1.oth (fun _ _ _ => rfl) (fun a j q => k1 a j (by omega)) (fun o ho => by rw [k1 _ _ (by omega)]; exact (h1.2.2.2.2.1 o ho).2)
    have h38 := h4.2.2.1
    have h38b := (h4.2.2.2.2.2.2 hE).1
    have e227 : B2.1 227 o = B1.1 227 o := k1 _ _ (by omega)
    have hres : ∃ B3, ((Sum.inr none : Nat ⊕ Option Value), xm z T R B2) = (.inr none, xm z T R B3) ∧ RR u D B3 ∧ KB (160 + 3 * o) (163 + 3 * o) 0 0 0 0 o (o + 1) B B3 := ⟨B2, rfl, h4, h2.trans ⟨fun a j _ _ q _ _ _ => k1 a j (by omega), fun a j q => k2 a j (by omega), fun j _ _ _ _ => k1 _ _ (by omega), by rw [k1 _ _ (by omega)]⟩⟩
    refine xp_iconst (n := 0) rfl (by decide) ?_
    refine xp_istore rfl (by decide) ?_
    refine xp_iload rfl rfl ?_
    refine xp_iload_n rfl rfl ?_
    refine xp_iconst (n := 3) rfl (by decide) ?_
    refine xp_icne 143 rfl (by decide) (by omega) (by omega) (fun h136 => ?_) (fun h136 => ?_)
    · skip
      refine xp_aload_n rfl rfl ?_
      refine xp_gfa rfl rfl (by decide) (by decide) (by first | assumption | exact hL.t rfl) (by first | assumption | exact hL.r rfl | exact hL.2.2.2.2.2) ?_
      refine xp_iload_n rfl rfl ?_
      refine xp_iald rfl (by first | assumption | exact hL.t rfl) (by omega) (by omega) ?_
      first | rw [e227] | skip
      refine xp_icge 179 rfl (by decide) (by omega) (by omega) (fun h149 => ?_) (fun h149 => ?_)
      · skip
        refine xp_return rfl (by decide) (by decide) (by decide) ?_
        exact hres
      · skip
        refine xp_aload_n rfl rfl ?_
        refine xp_gfi rfl rfl (by decide) (by decide) (by first | assumption | exact hL.t rfl) ?_
        refine xp_ifne 179 rfl (by decide) (by omega) (fun h156 => ?_) (fun h156 => ?_)
        · skip
          refine xp_return rfl (by decide) (by decide) (by decide) ?_
          exact hres
        · exfalso; omega
    · skip
      refine xp_iconst (n := 3) rfl (by decide) ?_
      refine xp_goto 149 rfl (by decide) ?_
      first | rw [e227] | skip
      refine xp_icge 179 rfl (by decide) (by omega) (by omega) (fun h149 => ?_) (fun h149 => ?_)
      · skip
        refine xp_return rfl (by decide) (by decide) (by decide) ?_
        exact hres
      · skip
        refine xp_aload_n rfl rfl ?_
        refine xp_gfi rfl rfl (by decide) (by decide) (by first | assumption | exact hL.t rfl) ?_
        refine xp_ifne 179 rfl (by decide) (by omega) (fun h156 => ?_) (fun h156 => ?_)
        · skip
          refine xp_return rfl (by decide) (by decide) (by decide) ?_
          exact hres
        · exfalso; omega
  have R0 : RR u D (xsI B 227 o 0) := hR.oth (fun _ _ _ => rfl) (fun a j q => xsI_ne (by omega)) (fun p hp => by
    by_cases e : p = o
    · rw [e, xsI_eq]; omega
    · rw [xsI_ne (by omega)]; exact (hR.2.2.2.2.1 p hp).2)
  have K0 : KB (160 + 3 * o) (163 + 3 * o) 0 0 0 0 o (o + 1) B (xsI B 227 o 0) := ⟨fun a j _ _ _ _ _ q => xsI_ne (by omega), fun _ _ _ => rfl, fun j _ _ _ _ => xsI_ne (by omega), by rw [xsI_ne (by omega)]⟩
  by_cases h4 : b = 4
  · obtain ⟨x1, B1, g1, r1, l1, n1, m1, k1⟩ := m161k (z := z) (lo := 0) (hi := 5) hL hu hI R0 (fun q => absurd q hE)
    rw [aRb_fl hE] at r1
    have R1 : RR u D (xsI B1 226 o x1) := r1.oth (fun _ _ _ => rfl) (fun a j q => xsI_ne (by omega)) (fun p hp => by rw [xsI_ne (by omega)]; exact (r1.2.2.2.2.1 p hp).2)
    obtain ⟨x2, B2, g2, r2, l2, n2, m2, k2⟩ := m161k (z := z) (lo := 0) (hi := 2) hL hu hI R1 (fun q => absurd q hE)
    rw [aRb_fl hE] at r2
    have hgo := go (xsI B2 227 o x2) (r2.oth (fun _ _ _ => rfl) (fun a j q => xsI_ne (by omega)) (fun p hp => by
      by_cases e : p = o
      · rw [e, xsI_eq]; omega
      · rw [xsI_ne (by omega)]; exact (r2.2.2.2.2.1 p hp).2)) (K0.trans (k1.up.trans (KB.trans (C := xsI B1 226 o x1) ⟨fun a j _ _ _ _ _ q => xsI_ne (by omega), fun _ _ _ => rfl, fun j _ _ _ _ => xsI_ne (by omega), by rw [xsI_ne (by omega)]⟩ (k2.up.trans ⟨fun a j _ _ _ _ _ q => xsI_ne (by omega), fun _ _ _ => rfl, fun j _ _ _ _ => xsI_ne (by omega), by rw [xsI_ne (by omega)]⟩)))) (by rw [xsI_eq]; exact l2)
    refine xp_aload_n rfl rfl ?_
    refine xp_gfa rfl rfl (by decide) (by decide) (by first | assumption | exact hL.t rfl) (by first | assumption | exact hL.r rfl | exact hL.2.2.2.2.2) ?_
    refine xp_iload_n rfl rfl ?_
    refine xp_iconst (n := 0) rfl (by decide) ?_
    refine xp_iast rfl (by first | assumption | exact hL.t rfl) (by omega) (by omega) ?_
    refine xp_iload_n rfl rfl ?_
    refine xp_iconst (n := 4) rfl (by decide) ?_
    refine xp_icne 82 rfl (by decide) (by omega) (by omega) (fun h53 => ?_) (fun h53 => ?_)
    · exfalso; omega
    · skip
      refine xp_aload_n rfl rfl ?_
      refine xp_gfa rfl rfl (by decide) (by decide) (by first | assumption | exact hL.t rfl) (by first | assumption | exact hL.r rfl | exact hL.2.2.2.2.2) ?_
      refine xp_iload_n rfl rfl ?_
      refine xp_aload_n rfl rfl ?_
      refine xp_iconst (n := 0) rfl (by decide) ?_
      refine xp_iconst (n := 5) rfl (by decide) ?_
      refine xp_iconst (n := 1) rfl (by decide) ?_
      refine xp_iv rfl rfl (Nat.le_of_ble_eq_true rfl) (by decide) (by decide) (by decide) (Nat.le_of_ble_eq_true rfl) rfl (xrcv1 (by decide) (by first | assumption | exact hL.t rfl)) (g1) rfl ?_
      refine xp_iast rfl (by first | assumption | exact hL.t rfl) (by omega) (by omega) ?_
      refine xp_aload_n rfl rfl ?_
      refine xp_gfa rfl rfl (by decide) (by decide) (by first | assumption | exact hL.t rfl) (by first | assumption | exact hL.r rfl | exact hL.2.2.2.2.2) ?_
      refine xp_iload_n rfl rfl ?_
      refine xp_aload_n rfl rfl ?_
      refine xp_iconst (n := 0) rfl (by decide) ?_
      refine xp_iconst (n := 2) rfl (by decide) ?_
      refine xp_iconst (n := 1) rfl (by decide) ?_
      refine xp_iv rfl rfl (Nat.le_of_ble_eq_true rfl) (by decide) (by decide) (by decide) (Nat.le_of_ble_eq_true rfl) rfl (xrcv1 (by decide) (by first | assumption | exact hL.t rfl)) (g2) rfl ?_
      refine xp_iast rfl (by first | assumption | exact hL.t rfl) (by omega) (by omega) ?_
      refine xp_iconst (n := 0) rfl (by decide) ?_
      refine xp_istore rfl (by decide) ?_
      refine xp_weak [(0, .ref 189), (1, .int (nI o)), (3, .int (nI b)), (4, .int (nI 0))] (xle_cons rfl (xle_cons rfl (xle_cons rfl (xle_cons rfl (xle_nil _))))) (by simp [xnd]) ?_
      exact hgo
  · have hgo := go (xsI B 227 o 0) R0 K0 (by rw [xsI_eq]; omega)
    refine xp_aload_n rfl rfl ?_
    refine xp_gfa rfl rfl (by decide) (by decide) (by first | assumption | exact hL.t rfl) (by first | assumption | exact hL.r rfl | exact hL.2.2.2.2.2) ?_
    refine xp_iload_n rfl rfl ?_
    refine xp_iconst (n := 0) rfl (by decide) ?_
    refine xp_iast rfl (by first | assumption | exact hL.t rfl) (by omega) (by omega) ?_
    refine xp_iload_n rfl rfl ?_
    refine xp_iconst (n := 4) rfl (by decide) ?_
    refine xp_icne 82 rfl (by decide) (by omega) (by omega) (fun h53 => ?_) (fun h53 => ?_)
    · skip
      refine xp_iconst (n := 0) rfl (by decide) ?_
      refine xp_istore rfl (by decide) ?_
      refine xp_weak [(0, .ref 189), (1, .int (nI o)), (3, .int (nI b)), (4, .int (nI 0))] (xle_cons rfl (xle_cons rfl (xle_cons rfl (xle_cons rfl (xle_nil _))))) (by simp [xnd]) ?_
      exact hgo
    · exfalso; omega
theorem l166g {z : Nat} {T : Nat → Option xT} {R : Nat → Nat → Option Nat} {A B : xQ} {w u o : Nat} (hL : xLay T R w) (hu : u = 12 ∨ u = 103) (ho : o < A.1 (u + 2) 4) (hI : CI u A) (hl : 1 ≤ A.1 102 5) (hE : (aRb (A.1 (u + 3) o) (A.1 (u + 3) o) A).2.1 102 2 = 4294967294) (hR : RR u (aRb (A.1 (u + 3) o) (A.1 (u + 3) o) A).2 B) : xP 166 44 [(0, .ref 189), (1, .int (nI o)), (3, .int (nI (A.1 (u + 3) o)))] [] 0 0 (xm z T R B) (fun r => ∃ B2, r = (.inr none, xm z T R B2) ∧ RR u (aRob u o A) B2 ∧ ((aRob u o A).1 102 2 = 4294967294 → OB u o (aRob u o A) B2) ∧ KB (160 + 3 * o) (163 + 3 * o) 0 0 0 0 o (o + 1) B B2) := by
  obtain ⟨i1, i2, i3, i4, i5, i6, i7⟩ := id hI
  have hk := (i7 o (by omega)).1 ho
  have ho24 : o < 24 := by omega
  have kA := KA.rb (lo := 0) (hi := 0) hI hu (A.1 (u + 3) o) (A.1 (u + 3) o)
  have e3o : ∀ p, (aRb (A.1 (u + 3) o) (A.1 (u + 3) o) A).2.1 (u + 3) p = A.1 (u + 3) p := fun p => aRb_ne _ _ _ (by omega)
  have e2o : (aRb (A.1 (u + 3) o) (A.1 (u + 3) o) A).2.1 (u + 2) 4 = A.1 (u + 2) 4 := aRb_ne _ _ _ (by omega)
  have krob := KO.rob (o := o) hI hu hl
  have R0 : RR u (aRb (A.1 (u + 3) o) (A.1 (u + 3) o) A).2 (xsI B 227 o 0) := hR.oth (fun _ _ _ => rfl) (fun a j q => xsI_ne (by omega)) (fun p hp => by
    by_cases e : p = o
    · rw [e, xsI_eq]; omega
    · rw [xsI_ne (by omega)]; exact (hR.2.2.2.2.1 p hp).2)
  have K0 : KB (160 + 3 * o) (163 + 3 * o) 0 0 0 0 o (o + 1) B (xsI B 227 o 0) := ⟨fun a j _ _ _ _ _ q => xsI_ne (by omega), fun _ _ _ => rfl, fun j _ _ _ _ => xsI_ne (by omega), by rw [xsI_ne (by omega)]⟩
  have go : ∀ (k fn sz : Nat) (D B1 : xQ), k = A.1 (u + 3) o → ((k = 3 ∧ sz = 3) ∨ (k = 4 ∧ sz ≤ 2)) → fn < 6 → CI u D → 1 ≤ D.1 102 5 → D.1 (u + 3) o = k → o < D.1 (u + 2) 4 → RR u D B1 → KB (160 + 3 * o) (163 + 3 * o) 0 0 0 0 o (o + 1) B B1 → B1.1 227 o < 256 → (D.1 102 2 = 4294967294 → k = 4 → B1.1 226 o = fn ∧ B1.1 227 o = sz) → (k = 4 → ¬ D.1 102 2 = 4294967294 → True) → (k = 4 → B1.1 227 o = sz ∨ ¬ D.1 102 2 = 4294967294) → xP 166 85 [(0, .ref 189), (1, .int (nI o)), (3, .int (nI k)), (4, .int (nI 0))] [] 0 0 (xm z T R B1) (fun r => ∃ B2, r = (.inr none, xm z T R B2) ∧ RR u (xit (aRv u (u + 7) (u + 8)) sz (o * 3) (aShape u o k fn sz D)) B2 ∧ ((xit (aRv u (u + 7) (u + 8)) sz (o * 3) (aShape u o k fn sz D)).1 102 2 = 4294967294 → OB u o (xit (aRv u (u + 7) (u + 8)) sz (o * 3) (aShape u o k fn sz D)) B2) ∧ KB (160 + 3 * o) (163 + 3 * o) 0 0 0 0 o (o + 1) B B2) := by
    intro k fn sz D B1 hkk hsz hfn hID hlD hDk hDo hRD hKD h227 hcd _ hcd2
    have ksh := KO.shape (o := o) (fn := fn) (sz := sz) hID hu
    rw [hDk] at ksh
    have esh : ∀ a j, a ≠ u + 3 → ((a ≠ u + 4 ∧ a ≠ u + 5) ∨ j ≠ o) → (aShape u o k fn sz D).1 a j = D.1 a j := fun a j q1 q2 => by
      unfold aShape
      rw [xsI_ne (by omega), xsI_ne (by omega), xsI_ne (by omega)]
    have e3s : ∀ p, (aShape u o k fn sz D).1 (u + 3) p = D.1 (u + 3) p := fun p => by
      unfold aShape
      rw [xsI_ne (by omega), xsI_ne (by omega)]
      by_cases q : p = o
      · rw [q, xsI_eq]; exact hDk.symm
      · rw [xsI_ne (by omega)]
    have kvs := KO.rvs (o := o) hu sz (o * 3) (aShape u o k fn sz D) (by omega) (by omega) ksh.ci (ksh.l hlD)
    refine l166z hL ho24 3 0 B1 (by omega) (fun B2 k1 k2 => ?_)
    have h4 : RR u (aShape u o k fn sz D) B2 := hRD.oth (fun a j q => by
      by_cases e : a = u + 3
      · rw [e]; exact e3s j
      · exact esh a j e (by omega)) (fun a j q => k1 a j (by omega)) (fun p hp => by rw [k1 _ _ (by omega)]; exact (hRD.2.2.2.2.1 p hp).2)
    have h38 := h4.2.2.1
    have e227 : B2.1 227 o = B1.1 227 o := k1 _ _ (by omega)
    have e226 : B2.1 226 o = B1.1 226 o := k1 _ _ (by omega)
    have kk : KB (160 + 3 * o) (163 + 3 * o) 0 0 0 0 o (o + 1) B B2 := hKD.trans ⟨fun a j _ _ q _ _ _ => k1 a j (by omega), fun a j q => k2 a j (by omega), fun j _ _ _ _ => k1 _ _ (by omega), by rw [k1 _ _ (by omega)]⟩
    by_cases hf : D.1 102 2 = 4294967294
    · have fin := l166v (z := z) (b := k) hL hu ho24 hsz sz 0 (aShape u o k fn sz D) B2 (by omega) ksh.ci (ksh.l hlD) h4 (by omega) (fun q => by rw [e227]; exact (hcd hf q).2) (fun _ c q1 q2 => by omega)
      have fin2 : xP 166 132 [(0, .ref 189), (1, .int (nI o)), (3, .int (nI k)), (4, .int (nI 0))] [] 0 0 (xm z T R B2) (fun r => ∃ B2, r = (.inr none, xm z T R B2) ∧ RR u (xit (aRv u (u + 7) (u + 8)) sz (o * 3) (aShape u o k fn sz D)) B2 ∧ ((xit (aRv u (u + 7) (u + 8)) sz (o * 3) (aShape u o k fn sz D)).1 102 2 = 4294967294 → OB u o (xit (aRv u (u + 7) (u + 8)) sz (o * 3) (aShape u o k fn sz D)) B2) ∧ KB (160 + 3 * o) (163 + 3 * o) 0 0 0 0 o (o + 1) B B2) := by
        obtain ⟨r, w1, B6, w2, w3, w4, w5⟩ := fin
        refine ⟨r, w1, B6, w2, w3, fun q => ?_, kk.trans (w4.mono (by omega) (by omega) (by omega) (by omega))⟩
        have cr := w5 q
        have f3 : (xit (aRv u (u + 7) (u + 8)) sz (o * 3) (aShape u o k fn sz D)).1 (u + 3) o = k := by
          rw [kvs.2.2.2.1 o (by rw [esh _ _ (by omega) (by omega)]; exact hDo), e3s]; exact hDk
        have hq : ∀ a j, (a = u + 4 ∨ a = u + 5) → (xit (aRv u (u + 7) (u + 8)) sz (o * 3) (aShape u o k fn sz D)).1 a j = (aShape u o k fn sz D).1 a j := fun a j q => xit_keep (f := aRv u (u + 7) (u + 8)) (fun i X => by
          show (xsI (aVal u X).2.2 (u + 7) i (aVal u X).1).1 a j = _
          rw [xsI_ne (by omega)]
          exact aVal_ne X (by omega) (by omega) (by omega) hu) _ _ _
        have f4 : (xit (aRv u (u + 7) (u + 8)) sz (o * 3) (aShape u o k fn sz D)).1 (u + 4) o = fn := by
          rw [hq _ _ (by omega)]
          unfold aShape
          rw [xsI_ne (by omega), xsI_eq]
        have f5 : (xit (aRv u (u + 7) (u + 8)) sz (o * 3) (aShape u o k fn sz D)).1 (u + 5) o = sz := by
          rw [hq _ _ (by omega)]
          exact xsI_eq
        refine ⟨⟨by omega, fun _ => by omega, fun _ => by omega, fun _ j hj => ?_⟩, fun q4 => ?_, by omega, fun i hi => ?_⟩
        · rw [f5] at hj
          exact (cr j (by omega) hj).2.2
        · rw [f4, f5, w4.1 226 o (by omega) (by omega) (by omega) (by omega) (by omega) (by omega), w4.1 227 o (by omega) (by omega) (by omega) (by omega) (by omega) (by omega), e226, e227]
          exact hcd hf (by omega)
        · rw [f5] at hi
          obtain ⟨t1, t2, t3⟩ := cr i (by omega) hi
          exact ⟨t1, t2⟩
      refine xp_iconst (n := 0) rfl (by decide) ?_
      refine xp_istore rfl (by decide) ?_
      refine xp_weak [(0, .ref 189), (1, .int (nI o)), (3, .int (nI k)), (4, .int (nI 0))] (xle_cons rfl (xle_cons rfl (xle_cons rfl (xle_cons rfl (xle_nil _))))) (by simp [xnd]) ?_
      exact fin2
    · have hfs : ¬ (aShape u o k fn sz D).1 102 2 = 4294967294 := by rw [esh _ _ (by omega) (by omega)]; exact hf
      have h38b := (h4.2.2.2.2.2.2 hfs).1
      have hres : ∃ B3, ((Sum.inr none : Nat ⊕ Option Value), xm z T R B2) = (.inr none, xm z T R B3) ∧ RR u (xit (aRv u (u + 7) (u + 8)) sz (o * 3) (aShape u o k fn sz D)) B3 ∧ ((xit (aRv u (u + 7) (u + 8)) sz (o * 3) (aShape u o k fn sz D)).1 102 2 = 4294967294 → OB u o (xit (aRv u (u + 7) (u + 8)) sz (o * 3) (aShape u o k fn sz D)) B3) ∧ KB (160 + 3 * o) (163 + 3 * o) 0 0 0 0 o (o + 1) B B3 := ⟨B2, rfl, h4.ko hfs kvs hu, fun q => absurd (kvs.nf q) hfs, kk⟩
      refine xp_iconst (n := 0) rfl (by decide) ?_
      refine xp_istore rfl (by decide) ?_
      refine xp_iload rfl rfl ?_
      refine xp_iload_n rfl rfl ?_
      refine xp_iconst (n := 3) rfl (by decide) ?_
      refine xp_icne 143 rfl (by decide) (by omega) (by omega) (fun h136 => ?_) (fun h136 => ?_)
      · skip
        refine xp_aload_n rfl rfl ?_
        refine xp_gfa rfl rfl (by decide) (by decide) (by first | assumption | exact hL.t rfl) (by first | assumption | exact hL.r rfl | exact hL.2.2.2.2.2) ?_
        refine xp_iload_n rfl rfl ?_
        refine xp_iald rfl (by first | assumption | exact hL.t rfl) (by omega) (by omega) ?_
        first | rw [e227] | skip
        refine xp_icge 179 rfl (by decide) (by omega) (by omega) (fun h149 => ?_) (fun h149 => ?_)
        · skip
          refine xp_return rfl (by decide) (by decide) (by decide) ?_
          exact hres
        · skip
          refine xp_aload_n rfl rfl ?_
          refine xp_gfi rfl rfl (by decide) (by decide) (by first | assumption | exact hL.t rfl) ?_
          refine xp_ifne 179 rfl (by decide) (by omega) (fun h156 => ?_) (fun h156 => ?_)
          · skip
            refine xp_return rfl (by decide) (by decide) (by decide) ?_
            exact hres
          · exfalso; omega
      · skip
        refine xp_iconst (n := 3) rfl (by decide) ?_
        refine xp_goto 149 rfl (by decide) ?_
        first | rw [e227] | skip
        refine xp_icge 179 rfl (by decide) (by omega) (by omega) (fun h149 => ?_) (fun h149 => ?_)
        · skip
          refine xp_return rfl (by decide) (by decide) (by decide) ?_
          exact hres
        · skip
          refine xp_aload_n rfl rfl ?_
          refine xp_gfi rfl rfl (by decide) (by decide) (by first | assumption | exact hL.t rfl) ?_
          refine xp_ifne 179 rfl (by decide) (by omega) (fun h156 => ?_) (fun h156 => ?_)
          · skip
            refine xp_return rfl (by decide) (by decide) (by decide) ?_
            exact hres
          · exfalso; omega
  unfold aRob
  by_cases h4 : A.1 (u + 3) o = 4
  · rw [if_pos h4]
    rw [h4] at kA hR R0 e3o e2o hE ⊢
    obtain ⟨x1, B1, g1, r1, l1, n1, m1, k1⟩ := m161k (z := z) (lo := 0) (hi := 5) hL hu kA.ci R0 (by omega)
    have R1 : RR u (oY A).2 (xsI B1 226 o x1) := r1.oth (fun _ _ _ => rfl) (fun a j q => xsI_ne (by omega)) (fun p hp => by rw [xsI_ne (by omega)]; exact (r1.2.2.2.2.1 p hp).2)
    have kY : KA u 0 0 (aRb 4 4 A).2 (oY A).2 := KA.rb kA.ci hu 0 5
    obtain ⟨x2, B2, g2, r2, l2, n2, m2, k2⟩ := m161k (z := z) (lo := 0) (hi := 2) hL hu kY.ci R1 (by omega)
    have kZ : KA u 0 0 (oY A).2 (oZ A).2 := KA.rb kY.ci hu 0 2
    have R2 : RR u (oZ A).2 (xsI B2 227 o x2) := r2.oth (fun _ _ _ => rfl) (fun a j q => xsI_ne (by omega)) (fun p hp => by
      by_cases e : p = o
      · rw [e, xsI_eq]; omega
      · rw [xsI_ne (by omega)]; exact (r2.2.2.2.2.1 p hp).2)
    have K2 : KB (160 + 3 * o) (163 + 3 * o) 0 0 0 0 o (o + 1) B (xsI B2 227 o x2) := K0.trans (k1.up.trans (KB.trans (C := xsI B1 226 o x1) ⟨fun a j _ _ _ _ _ q => xsI_ne (by omega), fun _ _ _ => rfl, fun j _ _ _ _ => xsI_ne (by omega), by rw [xsI_ne (by omega)]⟩ (k2.up.trans ⟨fun a j _ _ _ _ _ q => xsI_ne (by omega), fun _ _ _ => rfl, fun j _ _ _ _ => xsI_ne (by omega), by rw [xsI_ne (by omega)]⟩)))
    have y1 := oY_in (A := A)
    have y2 := oZ_in (A := A)
    have hz2 : (oZ A).2.1 (u + 2) 4 = A.1 (u + 2) 4 := by
      unfold oZ oY
      rw [aRb_ne _ _ _ (by omega), aRb_ne _ _ _ (by omega), aRb_ne _ _ _ (by omega)]
    have hcd : (oZ A).2.1 102 2 = 4294967294 → (xsI B2 227 o x2).1 226 o = (oY A).1 ∧ (xsI B2 227 o x2).1 227 o = (oZ A).1 := fun q => by
      refine ⟨?_, ?_⟩
      · rw [xsI_ne (by omega), k2.1 _ _ (by omega) (by omega) (by omega) (by omega) (by omega) (by omega), xsI_eq]
        exact n1 (kZ.nf q)
      · rw [xsI_eq]; exact n2 q
    have hgo := go 4 (oY A).1 (oZ A).1 (oZ A).2 (xsI B2 227 o x2) h4.symm (Or.inr ⟨rfl, y2⟩) (by omega) kZ.ci (kZ.l (kY.l (kA.l hl))) (by rw [oZ_3 o hu]; exact h4) (by rw [hz2]; exact ho) R2 K2 (by rw [xsI_eq]; exact l2) (fun q _ => hcd q) (fun _ _ => trivial) (fun _ => by
      by_cases q : (oZ A).2.1 102 2 = 4294967294
      · exact Or.inl (hcd q).2
      · exact Or.inr q)
    refine xp_aload_n rfl rfl ?_
    refine xp_gfa rfl rfl (by decide) (by decide) (by first | assumption | exact hL.t rfl) (by first | assumption | exact hL.r rfl | exact hL.2.2.2.2.2) ?_
    refine xp_iload_n rfl rfl ?_
    refine xp_iconst (n := 0) rfl (by decide) ?_
    refine xp_iast rfl (by first | assumption | exact hL.t rfl) (by omega) (by omega) ?_
    refine xp_iload_n rfl rfl ?_
    refine xp_iconst (n := 4) rfl (by decide) ?_
    refine xp_icne 82 rfl (by decide) (by omega) (by omega) (fun h53 => ?_) (fun h53 => ?_)
    · exfalso; omega
    · skip
      refine xp_aload_n rfl rfl ?_
      refine xp_gfa rfl rfl (by decide) (by decide) (by first | assumption | exact hL.t rfl) (by first | assumption | exact hL.r rfl | exact hL.2.2.2.2.2) ?_
      refine xp_iload_n rfl rfl ?_
      refine xp_aload_n rfl rfl ?_
      refine xp_iconst (n := 0) rfl (by decide) ?_
      refine xp_iconst (n := 5) rfl (by decide) ?_
      refine xp_iconst (n := 1) rfl (by decide) ?_
      refine xp_iv rfl rfl (Nat.le_of_ble_eq_true rfl) (by decide) (by decide) (by decide) (Nat.le_of_ble_eq_true rfl) rfl (xrcv1 (by decide) (by first | assumption | exact hL.t rfl)) (g1) rfl ?_
      refine xp_iast rfl (by first | assumption | exact hL.t rfl) (by omega) (by omega) ?_
      refine xp_aload_n rfl rfl ?_
      refine xp_gfa rfl rfl (by decide) (by decide) (by first | assumption | exact hL.t rfl) (by first | assumption | exact hL.r rfl | exact hL.2.2.2.2.2) ?_
      refine xp_iload_n rfl rfl ?_
      refine xp_aload_n rfl rfl ?_
      refine xp_iconst (n := 0) rfl (by decide) ?_
      refine xp_iconst (n := 2) rfl (by decide) ?_
      refine xp_iconst (n := 1) rfl (by decide) ?_
      refine xp_iv rfl rfl (Nat.le_of_ble_eq_true rfl) (by decide) (by decide) (by decide) (Nat.le_of_ble_eq_true rfl) rfl (xrcv1 (by decide) (by first | assumption | exact hL.t rfl)) (g2) rfl ?_
      refine xp_iast rfl (by first | assumption | exact hL.t rfl) (by omega) (by omega) ?_
      refine xp_iconst (n := 0) rfl (by decide) ?_
      refine xp_istore rfl (by decide) ?_
      refine xp_weak [(0, .ref 189), (1, .int (nI o)), (3, .int (nI 4)), (4, .int (nI 0))] (xle_cons rfl (xle_cons rfl (xle_cons rfl (xle_cons rfl (xle_nil _))))) (by simp [xnd]) ?_
      exact hgo
  · have h3 : A.1 (u + 3) o = 3 := by omega
    rw [if_neg h4]
    rw [h3] at kA hR R0 e3o e2o hE ⊢
    have hgo := go 3 0 3 (aRb 3 3 A).2 (xsI B 227 o 0) h3.symm (Or.inl ⟨rfl, rfl⟩) (by omega) kA.ci (kA.l hl) (by rw [e3o]; exact h3) (by rw [e2o]; exact ho) R0 K0 (by rw [xsI_eq]; omega) (fun _ q => by omega) (fun _ _ => trivial) (fun q => by omega)
    refine xp_aload_n rfl rfl ?_
    refine xp_gfa rfl rfl (by decide) (by decide) (by first | assumption | exact hL.t rfl) (by first | assumption | exact hL.r rfl | exact hL.2.2.2.2.2) ?_
    refine xp_iload_n rfl rfl ?_
    refine xp_iconst (n := 0) rfl (by decide) ?_
    refine xp_iast rfl (by first | assumption | exact hL.t rfl) (by omega) (by omega) ?_
    refine xp_iload_n rfl rfl ?_
    refine xp_iconst (n := 4) rfl (by decide) ?_
    refine xp_icne 82 rfl (by decide) (by omega) (by omega) (fun h53 => ?_) (fun h53 => ?_)
    · skip
      refine xp_iconst (n := 0) rfl (by decide) ?_
      refine xp_istore rfl (by decide) ?_
      refine xp_weak [(0, .ref 189), (1, .int (nI o)), (3, .int (nI 3)), (4, .int (nI 0))] (xle_cons rfl (xle_cons rfl (xle_cons rfl (xle_cons rfl (xle_nil _))))) (by simp [xnd]) ?_
      exact hgo
    · exfalso; omega
theorem m166 {z : Nat} {T : Nat → Option xT} {R : Nat → Nat → Option Nat} {A B : xQ} {w u o : Nat} (hL : xLay T R w) (hu : u = 12 ∨ u = 103) (ho : o ≤ A.1 (u + 2) 4) (hol : o < A.1 102 5) (hI : CI u A) (hn : A.1 102 2 = 4294967294) (hR : RR u A B) : ∃ B2, xF 166 [.ref 189, .int (nI o)] (xm z T R B) (.inr none, xm z T R B2) ∧ RR u (if o = A.1 (u + 2) 4 then xsI A 102 2 (A.1 102 4) else aRob u o A) B2 ∧ ((if o = A.1 (u + 2) 4 then xsI A 102 2 (A.1 102 4) else aRob u o A).1 102 2 = 4294967294 → OB u o (if o = A.1 (u + 2) 4 then xsI A 102 2 (A.1 102 4) else aRob u o A) B2) ∧ KB (160 + 3 * o) (163 + 3 * o) 0 0 0 0 o (o + 1) B B2 := by
  obtain ⟨i1, i2, i3, i4, i5, i6, i7⟩ := id hI
  have hp4 := hI.pl
  have ho24 : o < 24 := by omega
  obtain ⟨s1, s2, s3, s4, s5, s6⟩ := hR.2.2.2.2.2.1 hn
  obtain ⟨x, B1, g1, r1, l1, n1, m1, k1⟩ := m161k (z := z) (lo := 3) (hi := 4) hL hu hI hR (by omega)
  have h38 := r1.2.2.1
  have hl : 1 ≤ A.1 102 5 := by omega
  have hID := hI.flt hu hp4
  have nfD : ¬ (xsI A 102 2 (A.1 102 4)).1 102 2 = 4294967294 := by rw [xsI_eq]; omega
  have fin : ∀ (B9 : xQ) (b : Nat), b < 256 → RR u (xsI A 102 2 (A.1 102 4)) B9 → KB 0 0 0 0 0 0 0 0 B B9 → (¬ o = A.1 (u + 2) 4 → (aRb (A.1 (u + 3) o) (A.1 (u + 3) o) A).2 = xsI A 102 2 (A.1 102 4)) → xP 166 44 [(0, .ref 189), (1, .int (nI o)), (3, .int (nI b))] [] 0 0 (xm z T R B9) (fun r => ∃ B2, r = (.inr none, xm z T R B2) ∧ RR u (if o = A.1 (u + 2) 4 then xsI A 102 2 (A.1 102 4) else aRob u o A) B2 ∧ ((if o = A.1 (u + 2) 4 then xsI A 102 2 (A.1 102 4) else aRob u o A).1 102 2 = 4294967294 → OB u o (if o = A.1 (u + 2) 4 then xsI A 102 2 (A.1 102 4) else aRob u o A) B2) ∧ KB (160 + 3 * o) (163 + 3 * o) 0 0 0 0 o (o + 1) B B2) := fun B9 b hb hR9 hK9 he => by
    obtain ⟨r, w1, B2, w2, w3, w4⟩ := l166f (z := z) (b := b) hL hu ho24 hID hR9 nfD hb
    refine ⟨r, w1, B2, w2, ?_⟩
    by_cases ec : o = A.1 (u + 2) 4
    · rw [if_pos ec]
      exact ⟨w3, fun q => absurd q nfD, hK9.up.trans w4⟩
    · rw [if_neg ec]
      have kr := KO.rob2 (o := o) hI hu hl
      rw [he ec] at kr
      exact ⟨w3.ko nfD kr hu, fun q => absurd (kr.nf q) nfD, hK9.up.trans w4⟩
  refine xF_x (xF_p (Nat.le_of_ble_eq_true rfl) ?_)
  have h7 := i7 o ho24
  by_cases hE : (aRb 3 4 A).2.1 102 2 = 4294967294
  · obtain ⟨e1, e2, e3, e4, e5, e6⟩ := aRb_nf hE hp4
    have gx := n1 hE
    obtain ⟨t1, t2, t3, t4, t5, t6⟩ := r1.2.2.2.2.2.1 hE
    rw [e3] at gx
    have a2 : (aRb 3 4 A).2.1 (u + 2) 4 = A.1 (u + 2) 4 := aRb_ne _ _ _ (by omega)
    have a3 : (aRb 3 4 A).2.1 (u + 3) o = A.1 (u + 3) o := aRb_ne _ _ _ (by omega)
    rw [a2] at t4 t5
    have hw := m160b (z := z) (B := B1) (p := A.1 102 4) (c := 1) hL t1
    have n38 : (xsI (xsI B1 189 38 1) 189 37 (A.1 102 4)).1 189 38 = 1 := by rw [xsI_ne (by omega), xsI_eq]
    have hrr : RR u (xsI A 102 2 (A.1 102 4)) (xsI (xsI B1 189 38 1) 189 37 (A.1 102 4)) := r1.mk' hu (fun a j q => by rw [xsI_ne (by omega), aRb_ne _ _ _ q]) (fun a j q => by rw [xsI_ne (by omega), xsI_ne (by omega)]) (by omega) (by rw [xsI_ne (by omega), xsI_ne (by omega)]; exact r1.2.2.2.1) (fun q => absurd q nfD) (fun _ => ⟨by omega, by rw [xsI_eq, xsI_eq]⟩)
    have hkk : KB 0 0 0 0 0 0 0 0 B (xsI (xsI B1 189 38 1) 189 37 (A.1 102 4)) := by
      refine k1.trans ⟨fun a j q _ _ _ _ _ => by rw [xsI_ne (by omega), xsI_ne (by omega)], fun _ _ _ => rfl, fun j q1 q2 q3 q4 => by rw [xsI_ne (by omega), xsI_ne (by omega)], ?_⟩
      rw [n38, t1]
      omega
    by_cases ec : o = A.1 (u + 2) 4
    · have hfin := fin _ x l1 hrr hkk (fun q => absurd ec q)
      refine xp_aload_n rfl rfl ?_
      refine xp_gfi rfl rfl (by decide) (by decide) (by first | assumption | exact hL.t rfl) ?_
      rw [s3]
      refine xp_istore_n rfl (by decide) ?_
      refine xp_aload_n rfl rfl ?_
      refine xp_iconst (n := 3) rfl (by decide) ?_
      refine xp_iconst (n := 4) rfl (by decide) ?_
      refine xp_iconst (n := 1) rfl (by decide) ?_
      refine xp_iv rfl rfl (Nat.le_of_ble_eq_true rfl) (by decide) (by decide) (by decide) (Nat.le_of_ble_eq_true rfl) rfl (xrcv1 (by decide) (by first | assumption | exact hL.t rfl)) (g1) rfl ?_
      refine xp_istore_n rfl (by decide) ?_
      refine xp_aload_n rfl rfl ?_
      refine xp_gfi rfl rfl (by decide) (by decide) (by first | assumption | exact hL.t rfl) ?_
      rw [t1]
      refine xp_ifne 44 rfl (by decide) (by omega) (fun h17 => ?_) (fun h17 => ?_)
      · exfalso; omega
      · skip
        refine xp_iload_n rfl rfl ?_
        refine xp_aload_n rfl rfl ?_
        refine xp_gfi rfl rfl (by decide) (by decide) (by first | assumption | exact hL.t rfl) ?_
        rw [t4]
        refine xp_icge 38 rfl (by decide) (by omega) (by omega) (fun h25 => ?_) (fun h25 => ?_)
        · skip
          refine xp_aload_n rfl rfl ?_
          refine xp_iload_n rfl rfl ?_
          refine xp_iconst (n := 1) rfl (by decide) ?_
          refine xp_iv rfl rfl (Nat.le_of_ble_eq_true rfl) (by decide) (by decide) (by decide) (Nat.le_of_ble_eq_true rfl) rfl (xrcv1 (by decide) (by first | assumption | exact hL.t rfl)) (hw) rfl ?_
          refine xp_weak [(0, .ref 189), (1, .int (nI o)), (3, .int (nI x))] (xle_cons rfl (xle_cons rfl (xle_cons rfl (xle_nil _)))) (by simp [xnd]) ?_
          exact hfin
        · exfalso; omega
    · have hlt : o < A.1 (u + 2) 4 := by omega
      have t5o := t5 o hlt
      rw [a3] at t5o
      have hk := h7.1 hlt
      by_cases eb : A.1 (u + 3) o = A.1 100 (A.1 102 4)
      · have eR : aRb (A.1 (u + 3) o) (A.1 (u + 3) o) A = (A.1 100 (A.1 102 4), xsI A 102 4 (A.1 102 4 + 1)) := by
          unfold aRb
          rw [if_pos hn, if_pos ⟨e2, by omega, by omega⟩]
        have hEk : (aRb (A.1 (u + 3) o) (A.1 (u + 3) o) A).2.1 102 2 = 4294967294 := by rw [eR]; show (xsI A 102 4 _).1 102 2 = _; rw [xsI_ne (by omega)]; exact hn
        have hfin0 := l166g (z := z) (B := B1) hL hu hlt hI hl hEk (by rw [eR]; rw [e6] at r1; exact r1)
        rw [if_neg ec]
        have hx : x = A.1 (u + 3) o := by omega
        have hfin : xP 166 44 [(0, .ref 189), (1, .int (nI o)), (3, .int (nI x))] [] 0 0 (xm z T R B1) (fun r => ∃ B2, r = (.inr none, xm z T R B2) ∧ RR u (aRob u o A) B2 ∧ ((aRob u o A).1 102 2 = 4294967294 → OB u o (aRob u o A) B2) ∧ KB (160 + 3 * o) (163 + 3 * o) 0 0 0 0 o (o + 1) B B2) := by
          rw [hx]
          obtain ⟨r, w1, B2, w2, w3, w4, w5⟩ := hfin0
          exact ⟨r, w1, B2, w2, w3, w4, k1.up.trans w5⟩
        refine xp_aload_n rfl rfl ?_
        refine xp_gfi rfl rfl (by decide) (by decide) (by first | assumption | exact hL.t rfl) ?_
        rw [s3]
        refine xp_istore_n rfl (by decide) ?_
        refine xp_aload_n rfl rfl ?_
        refine xp_iconst (n := 3) rfl (by decide) ?_
        refine xp_iconst (n := 4) rfl (by decide) ?_
        refine xp_iconst (n := 1) rfl (by decide) ?_
        refine xp_iv rfl rfl (Nat.le_of_ble_eq_true rfl) (by decide) (by decide) (by decide) (Nat.le_of_ble_eq_true rfl) rfl (xrcv1 (by decide) (by first | assumption | exact hL.t rfl)) (g1) rfl ?_
        refine xp_istore_n rfl (by decide) ?_
        refine xp_aload_n rfl rfl ?_
        refine xp_gfi rfl rfl (by decide) (by decide) (by first | assumption | exact hL.t rfl) ?_
        rw [t1]
        refine xp_ifne 44 rfl (by decide) (by omega) (fun h17 => ?_) (fun h17 => ?_)
        · exfalso; omega
        · skip
          refine xp_iload_n rfl rfl ?_
          refine xp_aload_n rfl rfl ?_
          refine xp_gfi rfl rfl (by decide) (by decide) (by first | assumption | exact hL.t rfl) ?_
          rw [t4]
          refine xp_icge 38 rfl (by decide) (by omega) (by omega) (fun h25 => ?_) (fun h25 => ?_)
          · exfalso; omega
          · skip
            refine xp_aload_n rfl rfl ?_
            refine xp_gfa rfl rfl (by decide) (by decide) (by first | assumption | exact hL.t rfl) (by first | assumption | exact hL.r rfl | exact hL.2.2.2.2.2) ?_
            refine xp_iload_n rfl rfl ?_
            refine xp_iald rfl (by first | assumption | exact hL.t rfl) (by omega) (by omega) ?_
            refine xp_iload_n rfl rfl ?_
            rw [t5o]
            refine xp_iceq 44 rfl (by decide) (by omega) (by omega) (fun h35 => ?_) (fun h35 => ?_)
            · skip
              refine xp_weak [(0, .ref 189), (1, .int (nI o)), (3, .int (nI x))] (xle_cons rfl (xle_cons rfl (xle_cons rfl (xle_nil _)))) (by simp [xnd]) ?_
              exact hfin
            · exfalso; omega
      · have eR : (aRb (A.1 (u + 3) o) (A.1 (u + 3) o) A).2 = xsI A 102 2 (A.1 102 4) := by
          unfold aRb
          rw [if_pos hn, if_neg (by omega)]
        have hfin := fin _ x l1 hrr hkk (fun _ => eR)
        refine xp_aload_n rfl rfl ?_
        refine xp_gfi rfl rfl (by decide) (by decide) (by first | assumption | exact hL.t rfl) ?_
        rw [s3]
        refine xp_istore_n rfl (by decide) ?_
        refine xp_aload_n rfl rfl ?_
        refine xp_iconst (n := 3) rfl (by decide) ?_
        refine xp_iconst (n := 4) rfl (by decide) ?_
        refine xp_iconst (n := 1) rfl (by decide) ?_
        refine xp_iv rfl rfl (Nat.le_of_ble_eq_true rfl) (by decide) (by decide) (by decide) (Nat.le_of_ble_eq_true rfl) rfl (xrcv1 (by decide) (by first | assumption | exact hL.t rfl)) (g1) rfl ?_
        refine xp_istore_n rfl (by decide) ?_
        refine xp_aload_n rfl rfl ?_
        refine xp_gfi rfl rfl (by decide) (by decide) (by first | assumption | exact hL.t rfl) ?_
        rw [t1]
        refine xp_ifne 44 rfl (by decide) (by omega) (fun h17 => ?_) (fun h17 => ?_)
        · exfalso; omega
        · skip
          refine xp_iload_n rfl rfl ?_
          refine xp_aload_n rfl rfl ?_
          refine xp_gfi rfl rfl (by decide) (by decide) (by first | assumption | exact hL.t rfl) ?_
          rw [t4]
          refine xp_icge 38 rfl (by decide) (by omega) (by omega) (fun h25 => ?_) (fun h25 => ?_)
          · exfalso; omega
          · skip
            refine xp_aload_n rfl rfl ?_
            refine xp_gfa rfl rfl (by decide) (by decide) (by first | assumption | exact hL.t rfl) (by first | assumption | exact hL.r rfl | exact hL.2.2.2.2.2) ?_
            refine xp_iload_n rfl rfl ?_
            refine xp_iald rfl (by first | assumption | exact hL.t rfl) (by omega) (by omega) ?_
            refine xp_iload_n rfl rfl ?_
            rw [t5o]
            refine xp_iceq 44 rfl (by decide) (by omega) (by omega) (fun h35 => ?_) (fun h35 => ?_)
            · exfalso; omega
            · skip
              refine xp_aload_n rfl rfl ?_
              refine xp_iload_n rfl rfl ?_
              refine xp_iconst (n := 1) rfl (by decide) ?_
              refine xp_iv rfl rfl (Nat.le_of_ble_eq_true rfl) (by decide) (by decide) (by decide) (Nat.le_of_ble_eq_true rfl) rfl (xrcv1 (by decide) (by first | assumption | exact hL.t rfl)) (hw) rfl ?_
              refine xp_weak [(0, .ref 189), (1, .int (nI o)), (3, .int (nI x))] (xle_cons rfl (xle_cons rfl (xle_cons rfl (xle_nil _)))) (by simp [xnd]) ?_
              exact hfin
  · have eD : (aRb 3 4 A).2 = xsI A 102 2 (A.1 102 4) ∧ (A.1 102 4 < A.1 99 1 → ¬ (3 ≤ A.1 100 (A.1 102 4) ∧ A.1 100 (A.1 102 4) ≤ 4)) := by
      unfold aRb at hE ⊢
      rw [if_pos hn] at hE ⊢
      by_cases q : A.1 102 4 < A.1 99 1 ∧ 3 ≤ A.1 100 (A.1 102 4) ∧ A.1 100 (A.1 102 4) ≤ 4
      · rw [if_pos q] at hE
        exact absurd (by show (xsI A 102 4 _).1 102 2 = _; rw [xsI_ne (by omega)]; exact hn) hE
      · rw [if_neg q]
        exact ⟨rfl, fun q1 q2 => q ⟨q1, q2⟩⟩
    have t1 := r1.2.2.2.2.2.2 hE
    rw [eD.1] at r1
    have hfin := fin B1 x l1 r1 k1 (fun ec => by
      have hk := h7.1 (by omega)
      unfold aRb
      rw [if_pos hn, if_neg (fun q => eD.2 q.1 (by omega))])
    refine xp_aload_n rfl rfl ?_
    refine xp_gfi rfl rfl (by decide) (by decide) (by first | assumption | exact hL.t rfl) ?_
    rw [s3]
    refine xp_istore_n rfl (by decide) ?_
    refine xp_aload_n rfl rfl ?_
    refine xp_iconst (n := 3) rfl (by decide) ?_
    refine xp_iconst (n := 4) rfl (by decide) ?_
    refine xp_iconst (n := 1) rfl (by decide) ?_
    refine xp_iv rfl rfl (Nat.le_of_ble_eq_true rfl) (by decide) (by decide) (by decide) (Nat.le_of_ble_eq_true rfl) rfl (xrcv1 (by decide) (by first | assumption | exact hL.t rfl)) (g1) rfl ?_
    refine xp_istore_n rfl (by decide) ?_
    refine xp_aload_n rfl rfl ?_
    refine xp_gfi rfl rfl (by decide) (by decide) (by first | assumption | exact hL.t rfl) ?_
    refine xp_ifne 44 rfl (by decide) (by omega) (fun h17 => ?_) (fun h17 => ?_)
    · skip
      refine xp_weak [(0, .ref 189), (1, .int (nI o)), (3, .int (nI x))] (xle_cons rfl (xle_cons rfl (xle_cons rfl (xle_nil _)))) (by simp [xnd]) ?_
      exact hfin
    · exfalso; omega
