-- THE REFERENCE: its search
def Mk (w : Nat) (A B B1 : xQ) : Prop := (∀ a j, a ≠ 209 → B1.1 a j = B.1 a j) ∧ B1.2 = B.2 ∧ (∀ o, o < 24 → B1.1 209 o = 0 ∨ B1.1 209 o = 1) ∧ ∀ o, o < 24 → B1.1 209 o = 1 → aFd w (aFind w A) o
def Mn (B1 B2 : xQ) : Prop := ∀ o, B1.1 209 o = 1 → B2.1 209 o = 1
def mC (B : xQ) : Nat := xcnt (fun o => decide (B.1 209 o = 1)) 24
def mSz (B : xQ) (o : Nat) : Nat := if B.1 210 o = 3 then 3 else B.1 212 o
theorem Mn.refl (B : xQ) : Mn B B := fun _ h => h
theorem Mn.trans {B C D : xQ} (h : Mn B C) (g : Mn C D) : Mn B D := fun o q => g o (h o q)
theorem mMark_le (B : xQ) (v : Nat) : (mMark B v).1 = 0 ∨ (mMark B v).1 = 1 := by
  unfold mMark
  split
  · exact Or.inl rfl
  · split
    · exact Or.inr rfl
    · exact Or.inl rfl
theorem Mk.mark {w : Nat} {A B B1 : xQ} {v : Nat} (h : Mk w A B B1) (hv : 3 ≤ B.1 206 v → oN (B.2 207 v) < 24 ∧ aFd w (aFind w A) (oN (B.2 207 v))) : Mk w A B (mMark B1 v).2 ∧ Mn B1 (mMark B1 v).2 ∧ (3 ≤ B.1 206 v → (mMark B1 v).2.1 209 (oN (B.2 207 v)) = 1) ∧ (((mMark B1 v).1 = 0 ∧ (mMark B1 v).2 = B1) ∨ ((mMark B1 v).1 = 1 ∧ mC B1 < mC (mMark B1 v).2)) := by
  obtain ⟨h1, h2, h3, h4⟩ := h
  have e1 : B1.1 206 v = B.1 206 v := h1 _ _ (by omega)
  unfold mMark
  rw [e1, h2]
  by_cases hk : B.1 206 v < 3
  · rw [if_pos hk]
    exact ⟨⟨h1, h2, h3, h4⟩, Mn.refl _, fun z => by omega, Or.inl ⟨rfl, rfl⟩⟩
  · rw [if_neg hk]
    obtain ⟨v1, v2⟩ := hv (by omega)
    generalize oN (B.2 207 v) = q at v1 v2
    by_cases hf : B1.1 209 q = 0
    · rw [if_pos hf]
      have a1 : ∀ o, (xsI B1 209 q 1).1 209 o = if o = q then 1 else B1.1 209 o := by
        intro o
        by_cases e : o = q
        · rw [if_pos e, e, xsI_eq]
        · rw [if_neg e, xsI_ne (Or.inr e)]
      refine ⟨⟨fun a j z => by rw [xsI_ne (Or.inl z)]; exact h1 a j z, h2, fun o ho => ?_, fun o ho => ?_⟩, fun o ho => ?_, fun _ => xsI_eq, Or.inr ⟨rfl, ?_⟩⟩
      · show (xsI B1 209 q 1).1 209 o = 0 ∨ _
        rw [a1]
        split
        · exact Or.inr rfl
        · exact h3 o ho
      · show (xsI B1 209 q 1).1 209 o = 1 → _
        rw [a1]
        split
        · rename_i e; intro _; rw [e]; exact v2
        · exact h4 o ho
      · show (xsI B1 209 q 1).1 209 o = 1
        rw [a1]
        split
        · rfl
        · exact ho
      · unfold mC
        rw [xcnt_set (p := fun o => decide (B1.1 209 o = 1)) (q := fun o => decide ((xsI B1 209 q 1).1 209 o = 1)) v1 (by simp [hf]) (by simp [a1]) (fun i hi => by simp [a1, hi])]
        omega
    · rw [if_neg hf]
      exact ⟨⟨h1, h2, h3, h4⟩, Mn.refl _, fun _ => (h3 q v1).resolve_left hf, Or.inl ⟨rfl, rfl⟩⟩
/-- the values of an object that is in use -/
theorem Rel.ch {T : Nat → Option xT} {R : Nat → Nat → Option Nat} {w : Nat} {A B : xQ} (hW : xW0 T R w) (hR : Rel w A B) (hc : COk w A) {o : Nat} (ho : o < 24) (hf : aFd w (aFind w A) o) : mSz B o = A.1 (w + 5) o ∧ mSz B o ≤ 3 ∧ ∀ c, c < mSz B o → B.1 206 (160 + 3 * o + c) ≤ 4 ∧ B.1 206 (160 + 3 * o + c) = A.1 (w + 7) (o * 3 + c) ∧ B.2 207 (160 + 3 * o + c) = A.2 (w + 8) (o * 3 + c) ∧ (3 ≤ B.1 206 (160 + 3 * o + c) → oN (B.2 207 (160 + 3 * o + c)) < 24 ∧ aFd w (aFind w A) (oN (B.2 207 (160 + 3 * o + c)))) := by
  obtain ⟨f1, f2, f3, f4⟩ := find_fd hW hc.2.1
  have hlt := (f1.1.2.1 o ho).resolve_left hf
  have hkk := (f1.1.2.2.2 _ hlt).2.2
  rw [f1.2 o ho hf, f1.1.1.2 _ _ (by omega) (by omega) (Or.inl (by omega))] at hkk
  have hO := hc.2.1.2.2 o ho
  obtain ⟨p1, p2, p3⟩ := (hR.2.2.2.2 o ho).2.1 hkk
  have hs : mSz B o = A.1 (w + 5) o := by
    unfold mSz
    rw [p1]
    by_cases h3 : A.1 (w + 3) o = 3
    · rw [if_pos h3, hO.2.1 h3]
    · rw [if_neg h3]
      exact (p2 (by have := hO.1; omega)).2
  have h3 := hO.sz hkk
  refine ⟨hs, by omega, fun c hcs => ?_⟩
  rw [hs] at hcs
  obtain ⟨v1, v2⟩ := p3 c hcs
  have vv := hO.v hkk hcs
  rw [v1, v2]
  refine ⟨vv.1, rfl, rfl, fun q => ?_⟩
  obtain ⟨x, x1, x2, x3⟩ := vv.2 q
  have ex : oN (A.2 (w + 8) (o * 3 + c)) = x := by rw [x2, oN_lN (by omega)]
  rw [ex]
  exact ⟨x1, f3 o x ho hf ⟨c, hcs, q, ex.symm⟩⟩
def Pg (B1 : xQ) (m1 : Nat) (B2 : xQ) (m2 : Nat) : Prop := (m2 = m1 ∧ B2 = B1) ∨ (m2 = 1 ∧ mC B1 < mC B2)
theorem Pg.trans {B1 B2 B3 : xQ} {m1 m2 m3 : Nat} (h : Pg B1 m1 B2 m2) (g : Pg B2 m2 B3 m3) : Pg B1 m1 B3 m3 := by
  rcases h with ⟨rfl, rfl⟩ | ⟨rfl, h⟩
  · exact g
  · rcases g with ⟨rfl, rfl⟩ | ⟨rfl, g⟩
    · exact Or.inr ⟨rfl, h⟩
    · exact Or.inr ⟨rfl, by omega⟩
/-- the values of p from i on are marked -/
def ChM (B B2 : xQ) (p i : Nat) : Prop := ∀ c, i ≤ c → c < mSz B p → 3 ≤ B.1 206 (160 + 3 * p + c) → B2.1 209 (oN (B.2 207 (160 + 3 * p + c))) = 1
theorem l129a {z : Nat} {T : Nat → Option xT} {R : Nat → Nat → Option Nat} {w : Nat} {A B : xQ} {P : xR → Prop} (hL : xLay T R w) (hc : COk w A) (hR : Rel w A B) {o : Nat} (ho : o < 24) (hf : aFd w (aFind w A) o) : ∀ (n i more : Nat) (B1 : xQ), i + n = mSz B o → more = 0 ∨ more = 1 → Mk w A B B1 → B1.1 209 o = 1 → (∀ B2 m2, Mk w A B B2 → Mn B1 B2 → m2 = 0 ∨ m2 = 1 → Pg B1 more B2 m2 → ChM B B2 o i → xP 129 69 [(0, .ref 189), (1, .int (nI m2)), (2, .int (nI o))] [] 0 0 (xm z T R B2) P) → xP 129 12 [(0, .ref 189), (1, .int (nI more)), (2, .int (nI o)), (3, .int (nI i))] [] 0 0 (xm z T R B1) P := by
  obtain ⟨hs1, hs2, hs3⟩ := hR.ch (hL.w hL.1) hc ho hf
  have hk10 := (hR.2.2.2.2 o ho).2.2
  intro n
  induction n with
  | zero =>
    intro i more B1 hi hm hM hf1 hk
    have e1 : B1.1 210 o = B.1 210 o := hM.1 _ _ (by omega)
    have e2 : B1.1 212 o = B.1 212 o := hM.1 _ _ (by omega)
    have hx := hk B1 more hM (Mn.refl _) hm (Or.inl ⟨rfl, rfl⟩) (fun c h1 h2 => by omega)
    by_cases h3 : B.1 210 o = 3
    · have es : mSz B o = 3 := if_pos h3
      refine xp_iload_n rfl rfl ?_
      refine xp_aload_n rfl rfl ?_
      refine xp_gfa rfl rfl (by decide) (by decide) (by first | assumption | exact hL.t rfl) (by first | assumption | exact hL.r rfl | exact hL.2.2.2.2.2) ?_
      refine xp_iload_n rfl rfl ?_
      refine xp_iald rfl (by first | assumption | exact hL.t rfl) (by first | omega | (rw [e1]; omega) | (rw [e2]; omega)) (by omega) ?_
      refine xp_iconst (n := 3) rfl (by decide) ?_
      refine xp_icne 27 rfl (by decide) (by first | omega | (rw [e1]; omega) | (rw [e2]; omega)) (by first | omega | (rw [e1]; omega) | (rw [e2]; omega)) (fun h20 => ?_) (fun h20 => ?_)
      · exfalso; rw [e1] at h20; omega
      · skip
        refine xp_iconst (n := 3) rfl (by decide) ?_
        refine xp_goto 33 rfl (by decide) ?_
        refine xp_icge 69 rfl (by decide) (by first | omega | (rw [e1]; omega) | (rw [e2]; omega)) (by first | omega | (rw [e1]; omega) | (rw [e2]; omega)) (fun h33 => ?_) (fun h33 => ?_)
        · skip
          refine xp_weak [(0, .ref 189), (1, .int (nI more)), (2, .int (nI o))] (xle_cons rfl (xle_cons rfl (xle_cons rfl (xle_nil _)))) (by simp [xnd]) ?_
          exact hx
        · exfalso; omega
    · have es : mSz B o = B.1 212 o := if_neg h3
      refine xp_iload_n rfl rfl ?_
      refine xp_aload_n rfl rfl ?_
      refine xp_gfa rfl rfl (by decide) (by decide) (by first | assumption | exact hL.t rfl) (by first | assumption | exact hL.r rfl | exact hL.2.2.2.2.2) ?_
      refine xp_iload_n rfl rfl ?_
      refine xp_iald rfl (by first | assumption | exact hL.t rfl) (by first | omega | (rw [e1]; omega) | (rw [e2]; omega)) (by omega) ?_
      refine xp_iconst (n := 3) rfl (by decide) ?_
      refine xp_icne 27 rfl (by decide) (by first | omega | (rw [e1]; omega) | (rw [e2]; omega)) (by first | omega | (rw [e1]; omega) | (rw [e2]; omega)) (fun h20 => ?_) (fun h20 => ?_)
      · skip
        refine xp_aload_n rfl rfl ?_
        refine xp_gfa rfl rfl (by decide) (by decide) (by first | assumption | exact hL.t rfl) (by first | assumption | exact hL.r rfl | exact hL.2.2.2.2.2) ?_
        refine xp_iload_n rfl rfl ?_
        refine xp_iald rfl (by first | assumption | exact hL.t rfl) (by first | omega | (rw [e1]; omega) | (rw [e2]; omega)) (by omega) ?_
        rw [e2]
        refine xp_icge 69 rfl (by decide) (by first | omega | (rw [e1]; omega) | (rw [e2]; omega)) (by first | omega | (rw [e1]; omega) | (rw [e2]; omega)) (fun h33 => ?_) (fun h33 => ?_)
        · skip
          refine xp_weak [(0, .ref 189), (1, .int (nI more)), (2, .int (nI o))] (xle_cons rfl (xle_cons rfl (xle_cons rfl (xle_nil _)))) (by simp [xnd]) ?_
          exact hx
        · exfalso; omega
      · exfalso; rw [e1] at h20; omega
  | succ n ih =>
    intro i more B1 hi hm hM hf1 hk
    have e1 : B1.1 210 o = B.1 210 o := hM.1 _ _ (by omega)
    have e2 : B1.1 212 o = B.1 212 o := hM.1 _ _ (by omega)
    obtain ⟨v1, v2, v3, v4⟩ := hs3 i (by omega)
    have e3 : B1.1 206 (160 + 3 * o + i) = B.1 206 (160 + 3 * o + i) := hM.1 _ _ (by omega)
    have mk := m128 (z := z) (B := B1) (v := 160 + 3 * o + i) hL (by omega) (by rw [e3]; exact v1) (by rw [e3, hM.2.1]; exact fun q => (v4 q).1) (by rw [e3, hM.2.1]; exact fun q => by have := hM.2.2.1 _ (v4 q).1; omega)
    obtain ⟨k1, k2, k3, k4⟩ := hM.mark (v := 160 + 3 * o + i) v4
    have kle := mMark_le B1 (160 + 3 * o + i)
    generalize mMark B1 (160 + 3 * o + i) = r at mk k1 k2 k3 k4 kle
    have pA : r.1 = 0 → Pg B1 more r.2 more := fun q => by
      rcases k4 with ⟨_, h⟩ | ⟨h, _⟩
      · exact Or.inl ⟨rfl, h⟩
      · omega
    have pB : ¬ r.1 = 0 → Pg B1 more r.2 1 := fun q => by
      rcases k4 with ⟨h, _⟩ | ⟨_, h⟩
      · omega
      · exact Or.inr ⟨rfl, h⟩
    have step : ∀ m2, (m2 = 0 ∨ m2 = 1) → Pg B1 more r.2 m2 → xP 129 12 [(0, .ref 189), (1, .int (nI m2)), (2, .int (nI o)), (3, .int (nI (i + 1)))] [] 0 0 (xm z T R r.2) P := by
      intro m2 hm2 hp
      refine ih (i + 1) m2 r.2 (by omega) hm2 k1 (k2 o hf1) (fun B2 m3 g1 g2 g3 g4 g5 => hk B2 m3 g1 (k2.trans g2) g3 (hp.trans g4) (fun c h1 h2 h3 => ?_))
      by_cases hci : c = i
      · rw [hci] at h3 ⊢
        exact g2 _ (k3 h3)
      · exact g5 c (by omega) h2 h3
    by_cases h3 : B.1 210 o = 3
    · have es : mSz B o = 3 := if_pos h3
      refine xp_iload_n rfl rfl ?_
      refine xp_aload_n rfl rfl ?_
      refine xp_gfa rfl rfl (by decide) (by decide) (by first | assumption | exact hL.t rfl) (by first | assumption | exact hL.r rfl | exact hL.2.2.2.2.2) ?_
      refine xp_iload_n rfl rfl ?_
      refine xp_iald rfl (by first | assumption | exact hL.t rfl) (by first | omega | (rw [e1]; omega) | (rw [e2]; omega)) (by omega) ?_
      refine xp_iconst (n := 3) rfl (by decide) ?_
      refine xp_icne 27 rfl (by decide) (by first | omega | (rw [e1]; omega) | (rw [e2]; omega)) (by first | omega | (rw [e1]; omega) | (rw [e2]; omega)) (fun h20 => ?_) (fun h20 => ?_)
      · exfalso; rw [e1] at h20; omega
      · skip
        refine xp_iconst (n := 3) rfl (by decide) ?_
        refine xp_goto 33 rfl (by decide) ?_
        refine xp_icge 69 rfl (by decide) (by first | omega | (rw [e1]; omega) | (rw [e2]; omega)) (by first | omega | (rw [e1]; omega) | (rw [e2]; omega)) (fun h33 => ?_) (fun h33 => ?_)
        · exfalso; omega
        · skip
          refine xp_aload_n rfl rfl ?_
          refine xp_gfa rfl rfl (by decide) (by decide) (by first | assumption | exact hL.t rfl) (by first | assumption | exact hL.r rfl | exact hL.2.2.2.2.2) ?_
          refine xp_iload_n rfl rfl ?_
          refine xp_bald rfl (by first | assumption | exact hL.t rfl) (by first | omega | (rw [e1]; omega) | (rw [e2]; omega)) (by omega) ?_
          rw [hf1]
          refine xp_ifeq 69 rfl (by decide) (by first | omega | (rw [e1]; omega) | (rw [e2]; omega)) (fun h42 => ?_) (fun h42 => ?_)
          · exfalso; omega
          · skip
            refine xp_aload_n rfl rfl ?_
            refine xp_sipush (n := 160) rfl (by decide) ?_
            refine xp_iconst (n := 3) rfl (by decide) ?_
            refine xp_iload_n rfl rfl ?_
            refine xp_imul rfl ?_
            refine xp_iadd rfl ?_
            refine xp_iload_n rfl rfl ?_
            refine xp_iadd rfl ?_
            refine xp_iv rfl rfl (Nat.le_of_ble_eq_true rfl) (by decide) (by decide) (by decide) (Nat.le_of_ble_eq_true rfl) rfl (xrcv1 (by decide) (by first | assumption | exact hL.t rfl)) (mk) rfl ?_
            refine xp_ifeq 63 rfl (by decide) (by first | omega | (rw [e1]; omega) | (rw [e2]; omega)) (fun h58 => ?_) (fun h58 => ?_)
            · skip
              refine xp_iinc rfl rfl (by decide) (nI_inc _) ?_
              refine xp_goto 12 rfl (by decide) ?_
              first
                | (refine xp_weak [(0, .ref 189), (1, .int (nI more)), (2, .int (nI o)), (3, .int (nI (i + 1)))] (xle_cons rfl (xle_cons rfl (xle_cons rfl (xle_cons rfl (xle_nil _))))) (by simp [xnd]) ?_; exact step more hm (pA h58))
                | (refine xp_weak [(0, .ref 189), (1, .int (nI 1)), (2, .int (nI o)), (3, .int (nI (i + 1)))] (xle_cons rfl (xle_cons rfl (xle_cons rfl (xle_cons rfl (xle_nil _))))) (by simp [xnd]) ?_; exact step 1 (Or.inr rfl) (pB h58))
            · skip
              refine xp_iconst (n := 1) rfl (by decide) ?_
              refine xp_istore_n rfl (by decide) ?_
              refine xp_iinc rfl rfl (by decide) (nI_inc _) ?_
              refine xp_goto 12 rfl (by decide) ?_
              first
                | (refine xp_weak [(0, .ref 189), (1, .int (nI more)), (2, .int (nI o)), (3, .int (nI (i + 1)))] (xle_cons rfl (xle_cons rfl (xle_cons rfl (xle_cons rfl (xle_nil _))))) (by simp [xnd]) ?_; exact step more hm (pA h58))
                | (refine xp_weak [(0, .ref 189), (1, .int (nI 1)), (2, .int (nI o)), (3, .int (nI (i + 1)))] (xle_cons rfl (xle_cons rfl (xle_cons rfl (xle_cons rfl (xle_nil _))))) (by simp [xnd]) ?_; exact step 1 (Or.inr rfl) (pB h58))
    · have es : mSz B o = B.1 212 o := if_neg h3
      refine xp_iload_n rfl rfl ?_
      refine xp_aload_n rfl rfl ?_
      refine xp_gfa rfl rfl (by decide) (by decide) (by first | assumption | exact hL.t rfl) (by first | assumption | exact hL.r rfl | exact hL.2.2.2.2.2) ?_
      refine xp_iload_n rfl rfl ?_
      refine xp_iald rfl (by first | assumption | exact hL.t rfl) (by first | omega | (rw [e1]; omega) | (rw [e2]; omega)) (by omega) ?_
      refine xp_iconst (n := 3) rfl (by decide) ?_
      refine xp_icne 27 rfl (by decide) (by first | omega | (rw [e1]; omega) | (rw [e2]; omega)) (by first | omega | (rw [e1]; omega) | (rw [e2]; omega)) (fun h20 => ?_) (fun h20 => ?_)
      · skip
        refine xp_aload_n rfl rfl ?_
        refine xp_gfa rfl rfl (by decide) (by decide) (by first | assumption | exact hL.t rfl) (by first | assumption | exact hL.r rfl | exact hL.2.2.2.2.2) ?_
        refine xp_iload_n rfl rfl ?_
        refine xp_iald rfl (by first | assumption | exact hL.t rfl) (by first | omega | (rw [e1]; omega) | (rw [e2]; omega)) (by omega) ?_
        rw [e2]
        refine xp_icge 69 rfl (by decide) (by first | omega | (rw [e1]; omega) | (rw [e2]; omega)) (by first | omega | (rw [e1]; omega) | (rw [e2]; omega)) (fun h33 => ?_) (fun h33 => ?_)
        · exfalso; omega
        · skip
          refine xp_aload_n rfl rfl ?_
          refine xp_gfa rfl rfl (by decide) (by decide) (by first | assumption | exact hL.t rfl) (by first | assumption | exact hL.r rfl | exact hL.2.2.2.2.2) ?_
          refine xp_iload_n rfl rfl ?_
          refine xp_bald rfl (by first | assumption | exact hL.t rfl) (by first | omega | (rw [e1]; omega) | (rw [e2]; omega)) (by omega) ?_
          rw [hf1]
          refine xp_ifeq 69 rfl (by decide) (by first | omega | (rw [e1]; omega) | (rw [e2]; omega)) (fun h42 => ?_) (fun h42 => ?_)
          · exfalso; omega
          · skip
            refine xp_aload_n rfl rfl ?_
            refine xp_sipush (n := 160) rfl (by decide) ?_
            refine xp_iconst (n := 3) rfl (by decide) ?_
            refine xp_iload_n rfl rfl ?_
            refine xp_imul rfl ?_
            refine xp_iadd rfl ?_
            refine xp_iload_n rfl rfl ?_
            refine xp_iadd rfl ?_
            refine xp_iv rfl rfl (Nat.le_of_ble_eq_true rfl) (by decide) (by decide) (by decide) (Nat.le_of_ble_eq_true rfl) rfl (xrcv1 (by decide) (by first | assumption | exact hL.t rfl)) (mk) rfl ?_
            refine xp_ifeq 63 rfl (by decide) (by first | omega | (rw [e1]; omega) | (rw [e2]; omega)) (fun h58 => ?_) (fun h58 => ?_)
            · skip
              refine xp_iinc rfl rfl (by decide) (nI_inc _) ?_
              refine xp_goto 12 rfl (by decide) ?_
              first
                | (refine xp_weak [(0, .ref 189), (1, .int (nI more)), (2, .int (nI o)), (3, .int (nI (i + 1)))] (xle_cons rfl (xle_cons rfl (xle_cons rfl (xle_cons rfl (xle_nil _))))) (by simp [xnd]) ?_; exact step more hm (pA h58))
                | (refine xp_weak [(0, .ref 189), (1, .int (nI 1)), (2, .int (nI o)), (3, .int (nI (i + 1)))] (xle_cons rfl (xle_cons rfl (xle_cons rfl (xle_cons rfl (xle_nil _))))) (by simp [xnd]) ?_; exact step 1 (Or.inr rfl) (pB h58))
            · skip
              refine xp_iconst (n := 1) rfl (by decide) ?_
              refine xp_istore_n rfl (by decide) ?_
              refine xp_iinc rfl rfl (by decide) (nI_inc _) ?_
              refine xp_goto 12 rfl (by decide) ?_
              first
                | (refine xp_weak [(0, .ref 189), (1, .int (nI more)), (2, .int (nI o)), (3, .int (nI (i + 1)))] (xle_cons rfl (xle_cons rfl (xle_cons rfl (xle_cons rfl (xle_nil _))))) (by simp [xnd]) ?_; exact step more hm (pA h58))
                | (refine xp_weak [(0, .ref 189), (1, .int (nI 1)), (2, .int (nI o)), (3, .int (nI (i + 1)))] (xle_cons rfl (xle_cons rfl (xle_cons rfl (xle_cons rfl (xle_nil _))))) (by simp [xnd]) ?_; exact step 1 (Or.inr rfl) (pB h58))
      · exfalso; rw [e1] at h20; omega
theorem l129 {z : Nat} {T : Nat → Option xT} {R : Nat → Nat → Option Nat} {w : Nat} {A B : xQ} {P : xR → Prop} (hL : xLay T R w) (hc : COk w A) (hR : Rel w A B) : ∀ (n o more : Nat) (B1 : xQ), o + n = 24 → more = 0 ∨ more = 1 → Mk w A B B1 → (∀ B2 m2, Mk w A B B2 → Mn B1 B2 → m2 = 0 ∨ m2 = 1 → Pg B1 more B2 m2 → (∀ p, o ≤ p → p < 24 → B1.1 209 p = 1 → ChM B B2 p 0) → xP 129 75 [(0, .ref 189), (1, .int (nI m2))] [] 0 0 (xm z T R B2) P) → xP 129 4 [(0, .ref 189), (1, .int (nI more)), (2, .int (nI o))] [] 0 0 (xm z T R B1) P := by
  intro n
  induction n with
  | zero =>
    intro o more B1 ho hm hM hk
    have hx := hk B1 more hM (Mn.refl _) hm (Or.inl ⟨rfl, rfl⟩) (fun p h1 h2 => by omega)
    refine xp_iload_n rfl rfl ?_
    refine xp_bipush (n := 24) rfl (by decide) ?_
    refine xp_icge 75 rfl (by decide) (by omega) (by omega) (fun h7 => ?_) (fun h7 => ?_)
    · skip
      refine xp_weak [(0, .ref 189), (1, .int (nI more))] (xle_cons rfl (xle_cons rfl (xle_nil _))) (by simp [xnd]) ?_
      exact hx
    · exfalso; omega
  | succ n ih =>
    intro o more B1 ho hm hM hk
    have hk10 := (hR.2.2.2.2 o (by omega)).2.2
    have e1 : B1.1 210 o = B.1 210 o := hM.1 _ _ (by omega)
    have e2 : B1.1 212 o = B.1 212 o := hM.1 _ _ (by omega)
    have next : ∀ B2 m2, Mk w A B B2 → Mn B1 B2 → m2 = 0 ∨ m2 = 1 → Pg B1 more B2 m2 → (B1.1 209 o = 1 → ChM B B2 o 0) → xP 129 69 [(0, .ref 189), (1, .int (nI m2)), (2, .int (nI o))] [] 0 0 (xm z T R B2) P := by
      intro B2 m2 g1 g2 g3 g4 g5
      refine xp_iinc rfl rfl (by decide) (nI_inc _) ?_
      refine xp_goto 4 rfl (by decide) ?_
      refine xp_weak [(0, .ref 189), (1, .int (nI m2)), (2, .int (nI (o + 1)))] (xle_cons rfl (xle_cons rfl (xle_cons rfl (xle_nil _)))) (by simp [xnd]) ?_
      refine ih (o + 1) m2 B2 (by omega) g3 g1 (fun B3 m3 k1 k2 k3 k4 k5 => hk B3 m3 k1 (g2.trans k2) k3 (g4.trans k4) (fun p h1 h2 h3 => ?_))
      by_cases hpo : p = o
      · rw [hpo] at h3 ⊢
        exact fun c c1 c2 c3 => k2 _ (g5 h3 c c1 c2 c3)
      · exact k5 p (by omega) h2 (g2 p h3)
    by_cases hf1 : B1.1 209 o = 1
    · have hf := hM.2.2.2 o (by omega) hf1
      refine xp_iload_n rfl rfl ?_
      refine xp_bipush (n := 24) rfl (by decide) ?_
      refine xp_icge 75 rfl (by decide) (by omega) (by omega) (fun h7 => ?_) (fun h7 => ?_)
      · exfalso; omega
      · skip
        refine xp_iconst (n := 0) rfl (by decide) ?_
        refine xp_istore_n rfl (by decide) ?_
        refine xp_weak [(0, .ref 189), (1, .int (nI more)), (2, .int (nI o)), (3, .int (nI 0))] (xle_cons rfl (xle_cons rfl (xle_cons rfl (xle_cons rfl (xle_nil _))))) (by simp [xnd]) ?_
        exact l129a hL hc hR (by omega) hf (mSz B o) 0 more B1 (by omega) hm hM hf1 (fun B2 m2 g1 g2 g3 g4 g5 => next B2 m2 g1 g2 g3 g4 (fun _ => g5))
    · have hf0 : B1.1 209 o = 0 := (hM.2.2.1 o (by omega)).resolve_right hf1
      have hx := next B1 more hM (Mn.refl _) hm (Or.inl ⟨rfl, rfl⟩) (fun z => absurd z hf1)
      by_cases h3 : B.1 210 o = 3
      · skip
        refine xp_iload_n rfl rfl ?_
        refine xp_bipush (n := 24) rfl (by decide) ?_
        refine xp_icge 75 rfl (by decide) (by first | omega | (rw [e1]; omega) | (rw [e2]; omega)) (by first | omega | (rw [e1]; omega) | (rw [e2]; omega)) (fun h7 => ?_) (fun h7 => ?_)
        · exfalso; omega
        · skip
          refine xp_iconst (n := 0) rfl (by decide) ?_
          refine xp_istore_n rfl (by decide) ?_
          refine xp_iload_n rfl rfl ?_
          refine xp_aload_n rfl rfl ?_
          refine xp_gfa rfl rfl (by decide) (by decide) (by first | assumption | exact hL.t rfl) (by first | assumption | exact hL.r rfl | exact hL.2.2.2.2.2) ?_
          refine xp_iload_n rfl rfl ?_
          refine xp_iald rfl (by first | assumption | exact hL.t rfl) (by first | omega | (rw [e1]; omega) | (rw [e2]; omega)) (by omega) ?_
          refine xp_iconst (n := 3) rfl (by decide) ?_
          refine xp_icne 27 rfl (by decide) (by first | omega | (rw [e1]; omega) | (rw [e2]; omega)) (by first | omega | (rw [e1]; omega) | (rw [e2]; omega)) (fun h20 => ?_) (fun h20 => ?_)
          · exfalso; rw [e1] at h20; omega
          · skip
            refine xp_iconst (n := 3) rfl (by decide) ?_
            refine xp_goto 33 rfl (by decide) ?_
            refine xp_icge 69 rfl (by decide) (by first | omega | (rw [e1]; omega) | (rw [e2]; omega)) (by first | omega | (rw [e1]; omega) | (rw [e2]; omega)) (fun h33 => ?_) (fun h33 => ?_)
            · skip
              refine xp_weak [(0, .ref 189), (1, .int (nI more)), (2, .int (nI o))] (xle_cons rfl (xle_cons rfl (xle_cons rfl (xle_nil _)))) (by simp [xnd]) ?_
              exact hx
            · skip
              refine xp_aload_n rfl rfl ?_
              refine xp_gfa rfl rfl (by decide) (by decide) (by first | assumption | exact hL.t rfl) (by first | assumption | exact hL.r rfl | exact hL.2.2.2.2.2) ?_
              refine xp_iload_n rfl rfl ?_
              refine xp_bald rfl (by first | assumption | exact hL.t rfl) (by first | omega | (rw [e1]; omega) | (rw [e2]; omega)) (by omega) ?_
              rw [hf0]
              refine xp_ifeq 69 rfl (by decide) (by first | omega | (rw [e1]; omega) | (rw [e2]; omega)) (fun h42 => ?_) (fun h42 => ?_)
              · skip
                refine xp_weak [(0, .ref 189), (1, .int (nI more)), (2, .int (nI o))] (xle_cons rfl (xle_cons rfl (xle_cons rfl (xle_nil _)))) (by simp [xnd]) ?_
                exact hx
              · exfalso; omega
      · skip
        refine xp_iload_n rfl rfl ?_
        refine xp_bipush (n := 24) rfl (by decide) ?_
        refine xp_icge 75 rfl (by decide) (by first | omega | (rw [e1]; omega) | (rw [e2]; omega)) (by first | omega | (rw [e1]; omega) | (rw [e2]; omega)) (fun h7 => ?_) (fun h7 => ?_)
        · exfalso; omega
        · skip
          refine xp_iconst (n := 0) rfl (by decide) ?_
          refine xp_istore_n rfl (by decide) ?_
          refine xp_iload_n rfl rfl ?_
          refine xp_aload_n rfl rfl ?_
          refine xp_gfa rfl rfl (by decide) (by decide) (by first | assumption | exact hL.t rfl) (by first | assumption | exact hL.r rfl | exact hL.2.2.2.2.2) ?_
          refine xp_iload_n rfl rfl ?_
          refine xp_iald rfl (by first | assumption | exact hL.t rfl) (by first | omega | (rw [e1]; omega) | (rw [e2]; omega)) (by omega) ?_
          refine xp_iconst (n := 3) rfl (by decide) ?_
          refine xp_icne 27 rfl (by decide) (by first | omega | (rw [e1]; omega) | (rw [e2]; omega)) (by first | omega | (rw [e1]; omega) | (rw [e2]; omega)) (fun h20 => ?_) (fun h20 => ?_)
          · skip
            refine xp_aload_n rfl rfl ?_
            refine xp_gfa rfl rfl (by decide) (by decide) (by first | assumption | exact hL.t rfl) (by first | assumption | exact hL.r rfl | exact hL.2.2.2.2.2) ?_
            refine xp_iload_n rfl rfl ?_
            refine xp_iald rfl (by first | assumption | exact hL.t rfl) (by first | omega | (rw [e1]; omega) | (rw [e2]; omega)) (by omega) ?_
            rw [e2]
            refine xp_icgeS 69 rfl (by decide) (by first | omega | (rw [e1]; omega) | (rw [e2]; omega)) (by first | omega | (rw [e1]; omega) | (rw [e2]; omega)) (fun h33 => ?_) (fun h33 => ?_)
            · skip
              refine xp_weak [(0, .ref 189), (1, .int (nI more)), (2, .int (nI o))] (xle_cons rfl (xle_cons rfl (xle_cons rfl (xle_nil _)))) (by simp [xnd]) ?_
              exact hx
            · skip
              refine xp_aload_n rfl rfl ?_
              refine xp_gfa rfl rfl (by decide) (by decide) (by first | assumption | exact hL.t rfl) (by first | assumption | exact hL.r rfl | exact hL.2.2.2.2.2) ?_
              refine xp_iload_n rfl rfl ?_
              refine xp_bald rfl (by first | assumption | exact hL.t rfl) (by first | omega | (rw [e1]; omega) | (rw [e2]; omega)) (by omega) ?_
              rw [hf0]
              refine xp_ifeq 69 rfl (by decide) (by first | omega | (rw [e1]; omega) | (rw [e2]; omega)) (fun h42 => ?_) (fun h42 => ?_)
              · skip
                refine xp_weak [(0, .ref 189), (1, .int (nI more)), (2, .int (nI o))] (xle_cons rfl (xle_cons rfl (xle_cons rfl (xle_nil _)))) (by simp [xnd]) ?_
                exact hx
              · exfalso; omega
          · exfalso; rw [e1] at h20; omega
theorem m129 {z : Nat} {T : Nat → Option xT} {R : Nat → Nat → Option Nat} {w : Nat} {A B B1 : xQ} (hL : xLay T R w) (hc : COk w A) (hR : Rel w A B) (hM : Mk w A B B1) : ∃ B2, (∃ e, xF 129 [.ref 189] (xm z T R B1) (.inr (some (.int (nI e))), xm z T R B2) ∧ (e = 0 ∨ e = 1) ∧ Pg B1 0 B2 e) ∧ Mk w A B B2 ∧ Mn B1 B2 ∧ ∀ p, p < 24 → B1.1 209 p = 1 → ChM B B2 p 0 := by
  have h : ∃ r, xF 129 [.ref 189] (xm z T R B1) r ∧ ∃ B2 e, r = (.inr (some (.int (nI e))), xm z T R B2) ∧ (e = 0 ∨ e = 1) ∧ Pg B1 0 B2 e ∧ Mk w A B B2 ∧ Mn B1 B2 ∧ ∀ p, p < 24 → B1.1 209 p = 1 → ChM B B2 p 0 := by
    refine xF_p (Nat.le_of_ble_eq_true rfl) ?_
    refine xp_iconst (n := 0) rfl (by decide) ?_
    refine xp_istore_n rfl (by decide) ?_
    refine xp_iconst (n := 0) rfl (by decide) ?_
    refine xp_istore_n rfl (by decide) ?_
    refine xp_weak [(0, .ref 189), (1, .int (nI 0)), (2, .int (nI 0))] (xle_cons rfl (xle_cons rfl (xle_cons rfl (xle_nil _)))) (by simp [xnd]) ?_
    refine l129 hL hc hR 24 0 0 B1 (by omega) (Or.inl rfl) hM (fun B2 m2 g1 g2 g3 g4 g5 => ?_)
    refine xp_iload_n rfl rfl ?_
    refine xp_zreturn rfl (by decide) (by decide) (by decide) (by omega) ?_
    exact ⟨B2, m2, rfl, g3, g4, g1, g2, fun p hp => g5 p (by omega) hp⟩
  obtain ⟨r, h1, B2, e, h2, h3, h4, h5, h6, h7⟩ := h
  rw [h2] at h1
  exact ⟨B2, ⟨e, h1, h3, h4⟩, h5, h6, h7⟩
