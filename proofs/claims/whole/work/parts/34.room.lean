-- THE SEARCH, second half; room for an object
theorem l101d {z : Nat} {T : Nat → Option xT} {R : Nat → Nat → Option Nat} {w : Nat} {A0 : xQ} {P : xR → Prop} {o i n : Nat} (hW : xW0 T R w) (hH : xH0 T R w) (ho : o < 24) (hn : n = A0.1 (w + 5) o) (hn3 : n ≤ 3) (hv : ∀ c, c < n → VC w A0 (w + 7) (w + 8) (o * 3 + c)) : ∀ (m j : Nat) (A : xQ), j + m = n → Srch w A0 A → xP 101 193 [(0, .ref w), (1, .int (nI i))] [] 0 0 (xm z T R (xit (fun j B => aMeet w (w + 7) (w + 8) (o * 3 + j) B) m j A)) P → xP 101 150 [(0, .ref w), (1, .int (nI i)), (2, .int (nI o)), (3, .int (nI j))] [] 0 0 (xm z T R A) P := by
  have hH0 := hH
  obtain ⟨h1, h2, h3, h4, h5, h6, h7, h8, h9, h10, h11, h12, hCC⟩ := hH
  intro m
  induction m with
  | zero =>
    intro j A hj hs hk
    have e := hs.k (ka := w + 5) (i := o) (by omega) (by omega) (by omega)
    refine xp_iload_n rfl rfl ?_
    refine xp_aload_n rfl rfl ?_
    refine xp_gfa rfl rfl (by decide) (by decide) (by first | assumption | exact hW.1 | exact hCC.1) (by first | assumption | exact hW.2.2.1) ?_
    refine xp_gfa rfl rfl (by decide) (by decide) (by first | assumption | exact hW.1 | exact hCC.1) (by first | assumption | exact hW.2.2.1) ?_
    refine xp_iload_n rfl rfl ?_
    refine xp_iald rfl (by first | assumption | exact hW.1 | exact hCC.1) (by omega) (by omega) ?_
    refine xp_icge 193 rfl (by decide) (by omega) (by omega) (fun h160 => ?_) (fun h160 => ?_)
    · skip
      refine xp_weak [(0, .ref w), (1, .int (nI i))] (xle_cons rfl (xle_cons rfl (xle_nil _))) (by simp [xnd]) ?_
      exact hk
    · exfalso; omega
  | succ m ih =>
    intro j A hj hs hk
    have e := hs.k (ka := w + 5) (i := o) (by omega) (by omega) (by omega)
    have hvj := hv j (by omega)
    obtain ⟨m1, m2⟩ := hs.c64 hvj (by omega) (by omega) (by omega)
    refine xp_iload_n rfl rfl ?_
    refine xp_aload_n rfl rfl ?_
    refine xp_gfa rfl rfl (by decide) (by decide) (by first | assumption | exact hW.1 | exact hCC.1) (by first | assumption | exact hW.2.2.1) ?_
    refine xp_gfa rfl rfl (by decide) (by decide) (by first | assumption | exact hW.1 | exact hCC.1) (by first | assumption | exact hW.2.2.1) ?_
    refine xp_iload_n rfl rfl ?_
    refine xp_iald rfl (by first | assumption | exact hW.1 | exact hCC.1) (by omega) (by omega) ?_
    refine xp_icge 193 rfl (by decide) (by omega) (by omega) (fun h160 => ?_) (fun h160 => ?_)
    · exfalso; omega
    · skip
      refine xp_aload_n rfl rfl ?_
      refine xp_gfa rfl rfl (by decide) (by decide) (by first | assumption | exact hW.1 | exact hCC.1) (by first | assumption | exact hW.2.2.1) ?_
      refine xp_aload_n rfl rfl ?_
      refine xp_gfa rfl rfl (by decide) (by decide) (by first | assumption | exact hW.1 | exact hCC.1) (by first | assumption | exact hW.2.2.1) ?_
      refine xp_gfa rfl rfl (by decide) (by decide) (by first | assumption | exact hW.1 | exact hCC.1) (by first | assumption | exact hW.2.2.1) ?_
      refine xp_aload_n rfl rfl ?_
      refine xp_gfa rfl rfl (by decide) (by decide) (by first | assumption | exact hW.1 | exact hCC.1) (by first | assumption | exact hW.2.2.1) ?_
      refine xp_iload_n rfl rfl ?_
      refine xp_iv rfl rfl (Nat.le_of_ble_eq_true rfl) (by decide) (by decide) (by decide) (Nat.le_of_ble_eq_true rfl) rfl (xrcv1 (by decide) (by first | assumption | exact hW.1 | exact hCC.1)) (c60) rfl ?_
      refine xp_iload_n rfl rfl ?_
      refine xp_iadd rfl ?_
      refine xp_iv rfl rfl (Nat.le_of_ble_eq_true rfl) (by decide) (by decide) (by decide) (Nat.le_of_ble_eq_true rfl) rfl (xrcv1 (by decide) (by exact h1)) (c64 hH0 hCC (by omega) (by omega) m1 m2) rfl ?_
      refine xp_iinc rfl rfl (by decide) (nI_inc _) ?_
      refine xp_goto 150 rfl (by decide) ?_
      refine xp_weak [(0, .ref w), (1, .int (nI i)), (2, .int (nI o)), (3, .int (nI (j + 1)))] (xle_cons rfl (xle_cons rfl (xle_cons rfl (xle_cons rfl (xle_nil _))))) (by simp [xnd]) ?_
      exact ih (j + 1) _ (by omega) (hs.meet hvj (by omega) (by omega) (by omega)) hk
theorem l101e {z : Nat} {T : Nat → Option xT} {R : Nat → Nat → Option Nat} {w : Nat} {A0 : xQ} (hW : xW0 T R w) (hk0 : WOk w A0) : ∀ (m i : Nat) (A : xQ), i + m = 24 → Srch w A0 A → xP 101 121 [(0, .ref w), (1, .int (nI i))] [] 0 0 (xm z T R A) (fun r => r = (.inr none, xm z T R (aBfs w m i A))) := by
  have hH := hW.2.2.2.2.1
  have hH0 := hH
  obtain ⟨h1, h2, h3, h4, h5, h6, h7, h8, h9, h10, h11, h12, hCC⟩ := hH
  intro m
  induction m with
  | zero =>
    intro i A hj hs
    refine xp_iload_n rfl rfl ?_
    refine xp_bipush (n := 24) rfl (by decide) ?_
    refine xp_icge 199 rfl (by decide) (by omega) (by omega) (fun h124 => ?_) (fun h124 => ?_)
    · skip
      refine xp_return rfl (by decide) (by decide) (by decide) ?_
      rfl
    · exfalso; omega
  | succ m ih =>
    intro i A hj hs
    have hfc := hs.2.fc2
    refine xp_iload_n rfl rfl ?_
    refine xp_bipush (n := 24) rfl (by decide) ?_
    refine xp_icge 199 rfl (by decide) (by omega) (by omega) (fun h124 => ?_) (fun h124 => ?_)
    · exfalso; omega
    · skip
      refine xp_iload_n rfl rfl ?_
      refine xp_aload_n rfl rfl ?_
      refine xp_gfa rfl rfl (by decide) (by decide) (by first | assumption | exact hW.1 | exact hCC.1) (by first | assumption | exact hW.2.2.1) ?_
      refine xp_gfi rfl rfl (by decide) (by decide) (by first | assumption | exact hW.1 | exact hCC.1) ?_
      refine xp_icge 199 rfl (by decide) (by omega) (by omega) (fun h135 => ?_) (fun h135 => ?_)
      · skip
        have e : aBfs w (m + 1) i A = A := if_neg (by omega)
        rw [e]
        refine xp_return rfl (by decide) (by decide) (by decide) ?_
        rfl
      · skip
        obtain ⟨g1, g2, g3⟩ := hs.2.2.2 i h135
        have e3 := hs.1.2 (w + 3) (A.1 (w + 10) i) (by omega) (by omega) (by omega)
        have g4 := g3
        rw [e3] at g4
        have ob := hk0.2.2 _ g1
        refine xp_aload_n rfl rfl ?_
        refine xp_gfa rfl rfl (by decide) (by decide) (by first | assumption | exact hW.1 | exact hCC.1) (by first | assumption | exact hW.2.2.1) ?_
        refine xp_gfa rfl rfl (by decide) (by decide) (by first | assumption | exact hW.1 | exact hCC.1) (by first | assumption | exact hW.2.2.1) ?_
        refine xp_iload_n rfl rfl ?_
        refine xp_iald rfl (by first | assumption | exact hW.1 | exact hCC.1) (by omega) (by omega) ?_
        refine xp_istore_n rfl (by decide) ?_
        refine xp_iconst (n := 0) rfl (by decide) ?_
        refine xp_istore_n rfl (by decide) ?_
        have e : aBfs w (m + 1) i A = aBfs w m (i + 1) (aMeetO w i A) := if_pos h135
        rw [e]
        refine xp_weak [(0, .ref w), (1, .int (nI i)), (2, .int (nI (A.1 (w + 10) i))), (3, .int (nI 0))] (xle_cons rfl (xle_cons rfl (xle_cons rfl (xle_cons rfl (xle_nil _))))) (by simp [xnd]) ?_
        refine l101d hW hH0 g1 rfl (ob.sz g4) (fun c hc => ob.2.2.2 g4 c hc) (A0.1 (w + 5) (A.1 (w + 10) i)) 0 A (by omega) hs ?_
        refine xp_iinc rfl rfl (by decide) (nI_inc _) ?_
        refine xp_goto 121 rfl (by decide) ?_
        refine xp_weak [(0, .ref w), (1, .int (nI (i + 1)))] (xle_cons rfl (xle_cons rfl (xle_nil _))) (by simp [xnd]) ?_
        have ea : aMeetO w i A = xit (fun j B => aMeet w (w + 7) (w + 8) (A.1 (w + 10) i * 3 + j) B) (A0.1 (w + 5) (A.1 (w + 10) i)) 0 A := by
          unfold aMeetO
          rw [hs.k (ka := w + 5) (by omega) (by omega) (by omega)]
        rw [← ea]
        exact ih (i + 1) _ (by omega) (hs.mO hk0 h135)
theorem c101 {z : Nat} {T : Nat → Option xT} {R : Nat → Nat → Option Nat} {A : xQ} {w : Nat} (hW : xW0 T R w) (hk0 : WOk w A) : xF 101 [.ref w] (xm z T R A) (.inr (none), xm z T R (aFind w A)) := by
  have hH := hW.2.2.2.2.1
  refine xF_eq (xF_p (Nat.le_of_ble_eq_true rfl) ?_)
  refine xp_aload_n rfl rfl ?_
  refine xp_gfa rfl rfl (by decide) (by decide) (by first | assumption | exact hW.1 | exact hH.1) (by first | assumption | exact hW.2.2.1) ?_
  refine xp_iv rfl rfl (Nat.le_of_ble_eq_true rfl) (by decide) (by decide) (by decide) (Nat.le_of_ble_eq_true rfl) rfl (xrcv1 (by decide) (by first | assumption | exact hW.1 | exact hH.1)) (c63 hH) rfl ?_
  refine xp_iconst (n := 0) rfl (by decide) ?_
  refine xp_istore_n rfl (by decide) ?_
  refine xp_weak [(0, .ref w), (1, .int (nI 0))] (xle_cons rfl (xle_cons rfl (xle_nil _))) (by simp [xnd]) ?_
  have hs := aBegin_s w A
  refine l101c (A0 := A) hW rfl hk0 (A.1 w 2) 0 _ (by omega) hs ?_
  have er : aMeetR w (aBegin w A) = xit (fun t B => aMeetS w (w + 11 + 25 * t) B) (A.1 w 2) 0 (aBegin w A) := by unfold aMeetR; rw [hs.ww]
  rw [← er]
  refine xp_iconst (n := 0) rfl (by decide) ?_
  refine xp_istore_n rfl (by decide) ?_
  refine xp_weak [(0, .ref w), (1, .int (nI 0))] (xle_cons rfl (xle_cons rfl (xle_nil _))) (by simp [xnd]) ?_
  exact l101e hW hk0 24 0 _ (by omega) (hs.mR hW hk0)
/-- room for an object: the memory, after a search if all slots are taken -/
def aRoom (w : Nat) (A : xQ) : xQ := if A.1 (w + 2) 4 = 24 then aDrop w (aFind w A) else A
theorem aDrop_c (w : Nat) (A : xQ) : (aDrop w A).1 (w + 2) 4 = A.1 (w + 2) 7 := by
  unfold aDrop
  rw [xsI_eq]
  refine xit_keep (fun i B => ?_) 24 0 A
  split
  · exact xsI_ne (Or.inl (by omega))
  · rfl
theorem c102 {z : Nat} {T : Nat → Option xT} {R : Nat → Nat → Option Nat} {A : xQ} {w : Nat} (hW : xW0 T R w) (hk0 : WOk w A) (hc : A.1 (w + 2) 4 ≤ 24) : xF 102 [.ref w] (xm z T R A) (.inr (some (.int (nI (if (aRoom w A).1 (w + 2) 4 < 24 then 1 else 0)))), xm z T R (aRoom w A)) := by
  have hH := hW.2.2.2.2.1
  have hs := Srch.find hW hk0
  have hf2 := hs.2.fc2
  have hb : ∀ o, o < 24 → (aFind w A).1 (w + 9) o < 2 ^ 32 := fun o ho => by
    rcases hs.2.1 o ho with q | q <;> omega
  have hdc := aDrop_c w (aFind w A)
  refine xF_eq (xF_p (Nat.le_of_ble_eq_true rfl) ?_)
  refine xp_aload_n rfl rfl ?_
  refine xp_gfa rfl rfl (by decide) (by decide) (by first | assumption | exact hW.1 | exact hH.1) (by first | assumption | exact hW.2.2.1) ?_
  refine xp_gfi rfl rfl (by decide) (by decide) (by first | assumption | exact hW.1 | exact hH.1) ?_
  refine xp_bipush (n := 24) rfl (by decide) ?_
  refine xp_icne 23 rfl (by decide) (by omega) (by omega) (fun h9 => ?_) (fun h9 => ?_)
  · skip
    have er : aRoom w A = A := if_neg h9
    refine xp_aload_n rfl rfl ?_
    refine xp_gfa rfl rfl (by decide) (by decide) (by first | assumption | exact hW.1 | exact hH.1) (by first | assumption | exact hW.2.2.1) ?_
    refine xp_gfi rfl rfl (by decide) (by decide) (by first | assumption | exact hW.1 | exact hH.1) ?_
    refine xp_bipush (n := 24) rfl (by decide) ?_
    refine xp_icge 39 rfl (by decide) (by omega) (by omega) (fun h32 => ?_) (fun h32 => ?_)
    · skip
      refine xp_iconst (n := 0) rfl (by decide) ?_
      refine xp_zreturn rfl (by decide) (by decide) (by decide) (by omega) ?_
      first
        | (exfalso; omega)
        | (rw [er, if_pos (by omega)])
        | (rw [er, if_neg (by omega)])
    · skip
      refine xp_iconst (n := 1) rfl (by decide) ?_
      refine xp_goto 40 rfl (by decide) ?_
      refine xp_zreturn rfl (by decide) (by decide) (by decide) (by omega) ?_
      first
        | (exfalso; omega)
        | (rw [er, if_pos (by omega)])
        | (rw [er, if_neg (by omega)])
  · skip
    have er : aRoom w A = aDrop w (aFind w A) := if_pos h9
    refine xp_aload_n rfl rfl ?_
    refine xp_iv rfl rfl (Nat.le_of_ble_eq_true rfl) (by decide) (by decide) (by decide) (Nat.le_of_ble_eq_true rfl) rfl (xrcv1 (by decide) (by first | assumption | exact hW.1 | exact hH.1)) (c101 hW hk0) rfl ?_
    refine xp_aload_n rfl rfl ?_
    refine xp_gfa rfl rfl (by decide) (by decide) (by first | assumption | exact hW.1 | exact hH.1) (by first | assumption | exact hW.2.2.1) ?_
    refine xp_iv rfl rfl (Nat.le_of_ble_eq_true rfl) (by decide) (by decide) (by decide) (Nat.le_of_ble_eq_true rfl) rfl (xrcv1 (by decide) (by first | assumption | exact hW.1 | exact hH.1)) (c65 hH hb) rfl ?_
    refine xp_aload_n rfl rfl ?_
    refine xp_gfa rfl rfl (by decide) (by decide) (by first | assumption | exact hW.1 | exact hH.1) (by first | assumption | exact hW.2.2.1) ?_
    refine xp_gfi rfl rfl (by decide) (by decide) (by first | assumption | exact hW.1 | exact hH.1) ?_
    refine xp_bipush (n := 24) rfl (by decide) ?_
    refine xp_icge 39 rfl (by decide) (by omega) (by omega) (fun h32 => ?_) (fun h32 => ?_)
    · skip
      refine xp_iconst (n := 0) rfl (by decide) ?_
      refine xp_zreturn rfl (by decide) (by decide) (by decide) (by omega) ?_
      first
        | (exfalso; omega)
        | (rw [er, if_pos (by omega)])
        | (rw [er, if_neg (by omega)])
    · skip
      refine xp_iconst (n := 1) rfl (by decide) ?_
      refine xp_goto 40 rfl (by decide) ?_
      refine xp_zreturn rfl (by decide) (by decide) (by decide) (by omega) ?_
      first
        | (exfalso; omega)
        | (rw [er, if_pos (by omega)])
        | (rw [er, if_neg (by omega)])
