-- THE SEARCH
/-- A differs from A0 in what a search writes, at the most -/
def Agr (w : Nat) (A0 A : xQ) : Prop := A.2 = A0.2 ∧ ∀ a k, a ≠ w + 9 → a ≠ w + 10 → (a ≠ w + 2 ∨ k ≠ 7) → A.1 a k = A0.1 a k
/-- what has been found -/
def FInv (w : Nat) (A : xQ) : Prop := (∀ o, o < 24 → A.1 (w + 9) o = 4294967295 ∨ A.1 (w + 9) o < A.1 (w + 2) 7) ∧ A.1 (w + 2) 7 = xcnt (fun o => !decide (A.1 (w + 9) o = 4294967295)) 24 ∧ ∀ i, i < A.1 (w + 2) 7 → A.1 (w + 10) i < 24 ∧ A.1 (w + 9) (A.1 (w + 10) i) = i ∧ A.1 (w + 3) (A.1 (w + 10) i) ≠ 0
def Srch (w : Nat) (A0 A : xQ) : Prop := Agr w A0 A ∧ FInv w A
theorem aMeet1_new {w n : Nat} {A : xQ} (h : A.1 (w + 9) n = 4294967295) : (∀ o, (aMeet1 w n A).1 (w + 9) o = if o = n then A.1 (w + 2) 7 else A.1 (w + 9) o) ∧ (∀ i, (aMeet1 w n A).1 (w + 10) i = if i = A.1 (w + 2) 7 then n else A.1 (w + 10) i) ∧ (aMeet1 w n A).1 (w + 2) 7 = A.1 (w + 2) 7 + 1 := by
  unfold aMeet1
  rw [if_pos h]
  refine ⟨fun o => ?_, fun i => ?_, ?_⟩ <;> simp [xsI, x2]
theorem Agr.rfl' (w : Nat) (A : xQ) : Agr w A A := ⟨rfl, fun _ _ _ _ _ => rfl⟩
theorem Agr.meet1 {w n : Nat} {A0 A : xQ} (h : Agr w A0 A) : Agr w A0 (aMeet1 w n A) := by
  unfold aMeet1
  split
  · refine ⟨h.1, fun a k h1 h2 h3 => ?_⟩
    rw [xsI_ne h3, xsI_ne (Or.inl h2), xsI_ne (Or.inl h1)]
    exact h.2 a k h1 h2 h3
  · exact h
theorem FInv.fc {w : Nat} {A : xQ} (h : FInv w A) {n : Nat} (hn : n < 24) (hu : A.1 (w + 9) n = 4294967295) : A.1 (w + 2) 7 < 24 := by
  rw [h.2.1]
  exact xcnt_lt hn (by simp [hu])
theorem FInv.fc2 {w : Nat} {A : xQ} (h : FInv w A) : A.1 (w + 2) 7 ≤ 24 := by
  rw [h.2.1]
  exact xcnt_le _ _
theorem FInv.meet1 {w n : Nat} {A : xQ} (h : FInv w A) (hn : n < 24) (hk : A.1 (w + 3) n ≠ 0) : FInv w (aMeet1 w n A) := by
  by_cases hu : A.1 (w + 9) n = 4294967295
  · obtain ⟨e1, e2, e3⟩ := aMeet1_new hu
    have hfc := h.fc hn hu
    obtain ⟨g1, g2, g3⟩ := h
    have e4 : ∀ o, (aMeet1 w n A).1 (w + 3) o = A.1 (w + 3) o := fun o => (Agr.meet1 (Agr.rfl' w A)).2 _ _ (by omega) (by omega) (by omega)
    refine ⟨fun o ho => ?_, ?_, fun i hi => ?_⟩
    · rw [e1, e3]
      split
      · exact Or.inr (by omega)
      · rcases g1 o ho with q | q
        · exact Or.inl q
        · exact Or.inr (by omega)
    · rw [e3, g2]
      refine (xcnt_set hn (by simp [hu]) ?_ (fun i hi => ?_)).symm
      · rw [e1, if_pos rfl]
        simp
        omega
      · rw [e1, if_neg hi]
    · rw [e3] at hi
      rw [e4, e2, e1]
      by_cases hq : i = A.1 (w + 2) 7
      · rw [if_pos hq, if_pos rfl]
        exact ⟨hn, hq.symm, hk⟩
      · rw [if_neg hq]
        obtain ⟨z1, z2, z3⟩ := g3 i (by omega)
        refine ⟨z1, ?_, z3⟩
        rw [if_neg (fun z => ?_)]
        · exact z2
        · rw [z, hu] at z2
          omega
  · unfold aMeet1
    rw [if_neg hu]
    exact h
theorem VC.o {w : Nat} {A : xQ} {ka na i : Nat} (h : VC w A ka na i) (hk : A.1 ka i = 3 ∨ A.1 ka i = 4) : oN (A.2 na i) < 24 ∧ A.1 (w + 3) (oN (A.2 na i)) = A.1 ka i := by
  obtain ⟨o, h1, h2, h3⟩ := h.2 (by omega)
  rw [h2, oN_lN (by omega)]
  exact ⟨h1, h3⟩
section SR
variable {w : Nat} {A0 A : xQ} {ka na i : Nat}
theorem Srch.k (h : Srch w A0 A) (h1 : ka ≠ w + 9) (h2 : ka ≠ w + 10) (h3 : ka ≠ w + 2) : A.1 ka i = A0.1 ka i := h.1.2 ka i h1 h2 (Or.inl h3)
theorem Srch.meet (h : Srch w A0 A) (hv : VC w A0 ka na i) (h1 : ka ≠ w + 9) (h2 : ka ≠ w + 10) (h3 : ka ≠ w + 2) : Srch w A0 (aMeet w ka na i A) := by
  unfold aMeet
  rw [h.k h1 h2 h3, h.1.1]
  split
  · next hk =>
    obtain ⟨o1, o2⟩ := hv.o hk
    refine ⟨h.1.meet1, h.2.meet1 o1 ?_⟩
    rw [h.1.2 _ _ (by omega) (by omega) (by omega), o2]
    omega
  · exact h
theorem Srch.c64 (h : Srch w A0 A) (hv : VC w A0 ka na i) (h1 : ka ≠ w + 9) (h2 : ka ≠ w + 10) (h3 : ka ≠ w + 2) : A.1 ka i ≤ 4 ∧ (A.1 ka i = 3 ∨ A.1 ka i = 4 → oN (A.2 na i) < 24 ∧ A.1 (w + 9) (oN (A.2 na i)) < 2 ^ 32 ∧ (A.1 (w + 9) (oN (A.2 na i)) = 4294967295 → A.1 (w + 2) 7 < 24)) := by
  rw [h.k h1 h2 h3, h.1.1]
  refine ⟨hv.1, fun hk => ?_⟩
  obtain ⟨o1, o2⟩ := hv.o hk
  refine ⟨o1, ?_, fun hu => h.2.fc o1 hu⟩
  rcases h.2.1 _ o1 with q | q
  · omega
  · have := h.2.fc2; omega
theorem Srch.it {n : Nat} {g : Nat → Nat} (hv : ∀ c, c < n → VC w A0 ka na (g c)) (h1 : ka ≠ w + 9) (h2 : ka ≠ w + 10) (h3 : ka ≠ w + 2) : ∀ (m j : Nat) (A : xQ), j + m ≤ n → Srch w A0 A → Srch w A0 (xit (fun j B => aMeet w ka na (g j) B) m j A) := by
  intro m
  induction m with
  | zero => intro j A _ h; exact h
  | succ m ih =>
    intro j A hj h
    exact ih (j + 1) _ (by omega) (h.meet (hv j (by omega)) h1 h2 h3)
end SR
def aMeetF (w f : Nat) (A : xQ) : xQ := xit (fun j B => aMeet w (f + 2) (f + 3) j B) (5 + A.1 f 3) 0 A
def aMeetS (w s : Nat) (A : xQ) : xQ := xit (fun k B => aMeetF w (s + 5 + 4 * k) B) (A.1 s 3) 0 (if A.1 s 2 = 1 then aMeet w (s + 3) (s + 4) 0 A else A)
def aMeetR (w : Nat) (A : xQ) : xQ := xit (fun t B => aMeetS w (w + 11 + 25 * t) B) (A.1 w 2) 0 A
def aMeetO (w i : Nat) (A : xQ) : xQ := xit (fun j B => aMeet w (w + 7) (w + 8) (A.1 (w + 10) i * 3 + j) B) (A.1 (w + 5) (A.1 (w + 10) i)) 0 A
def aBfs (w : Nat) : Nat → Nat → xQ → xQ
  | 0, _, A => A
  | n + 1, i, A => if i < A.1 (w + 2) 7 then aBfs w n (i + 1) (aMeetO w i A) else A
def aFind (w : Nat) (A : xQ) : xQ := aBfs w 24 0 (aMeetR w (aBegin w A))
theorem xit_fill (a v : Nat) : ∀ (m i : Nat) (B : xQ), (xit (fun i B => xsI B a i v) m i B).2 = B.2 ∧ ∀ b k, (xit (fun i B => xsI B a i v) m i B).1 b k = if b = a ∧ i ≤ k ∧ k < i + m then v else B.1 b k := by
  intro m
  induction m with
  | zero => intro i B; exact ⟨rfl, fun a k => by rw [if_neg (by omega)]; rfl⟩
  | succ m ih =>
    intro i B
    obtain ⟨z1, z2⟩ := ih (i + 1) (xsI B a i v)
    refine ⟨z1, fun b k => ?_⟩
    show (xit _ m (i + 1) (xsI B a i v)).1 b k = _
    rw [z2]
    by_cases h1 : b = a ∧ i + 1 ≤ k ∧ k < i + 1 + m
    · rw [if_pos h1, if_pos (by omega)]
    · rw [if_neg h1]
      by_cases h2 : b = a ∧ k = i
      · rw [if_pos (by omega), h2.1, h2.2, xsI_eq]
      · rw [if_neg (by omega), xsI_ne (by omega)]
theorem aBegin_s (w : Nat) (A : xQ) : Srch w A (aBegin w A) := by
  obtain ⟨z1, z2⟩ := xit_fill (w + 9) 4294967295 24 0 A
  unfold aBegin
  generalize xit (fun i B => xsI B (w + 9) i 4294967295) 24 0 A = X at z1 z2
  have e2 : ∀ o, o < 24 → (xsI X (w + 2) 7 0).1 (w + 9) o = 4294967295 := fun o ho => by
    rw [xsI_ne (Or.inl (by omega)), z2, if_pos (by omega)]
  have e3 : (xsI X (w + 2) 7 0).1 (w + 2) 7 = 0 := xsI_eq
  refine ⟨⟨z1, fun a k h1 h2 h3 => ?_⟩, fun o ho => Or.inl (e2 o ho), ?_, fun i hi => ?_⟩
  · rw [xsI_ne h3, z2, if_neg (by omega)]
  · rw [e3, xcnt_zero]
    intro i hi
    simp only [e2 i hi]
    rfl
  · rw [e3] at hi
    omega
section SK
variable {w : Nat} {A0 A : xQ} {T : Nat → Option xT} {R : Nat → Nat → Option Nat}
theorem xF0.k {f : Nat} (hW : xW0 T R w) (hF : xF0 T R f) : f + 2 ≠ w + 9 ∧ f + 2 ≠ w + 10 ∧ f + 2 ≠ w + 2 ∧ f ≠ w + 9 ∧ f ≠ w + 10 ∧ f ≠ w + 2 := by
  obtain ⟨f1, f2, c1, c2, c3, c4, c5⟩ := hF
  obtain ⟨w1, w2, w3, w4, ⟨h1, h2, h3, h4, h5, h6, h7, h8, h9, h10, h11, h12, hC⟩, hSt⟩ := hW
  exact ⟨xne c4 h11 (by simp), xne c4 h12 (by simp), xne c4 h1 (by simp), xne f1 h11 (by simp), xne f1 h12 (by simp), xne f1 h1 (by simp)⟩
theorem xSt0.k {s : Nat} (hW : xW0 T R w) (hS : xSt0 T R s) : s + 3 ≠ w + 9 ∧ s + 3 ≠ w + 10 ∧ s + 3 ≠ w + 2 ∧ s ≠ w + 9 ∧ s ≠ w + 10 ∧ s ≠ w + 2 := by
  obtain ⟨s1, s2, s3, s4, ⟨c1, c2, c3, c4, c5⟩, s6⟩ := hS
  obtain ⟨w1, w2, w3, w4, ⟨h1, h2, h3, h4, h5, h6, h7, h8, h9, h10, h11, h12, hC⟩, hSt⟩ := hW
  exact ⟨xne c4 h11 (by simp), xne c4 h12 (by simp), xne c4 h1 (by simp), xne s1 h11 (by simp), xne s1 h12 (by simp), xne s1 h1 (by simp)⟩
theorem Srch.mF {f : Nat} (h : Srch w A0 A) (hW : xW0 T R w) (hF : xF0 T R f) (hk : FOk w A0 f) : Srch w A0 (aMeetF w f A) := by
  obtain ⟨k1, k2, k3, k4, k5, k6⟩ := xF0.k hW hF
  unfold aMeetF
  rw [h.k k4 k5 k6]
  exact Srch.it (g := fun j => j) (fun c hc => hk.2.2.2.2 c hc) k1 k2 k3 _ 0 A (by omega) h
theorem Srch.mFs {s : Nat} (hW : xW0 T R w) (hS : xSt0 T R s) {d : Nat} (hd : d ≤ 5) (hk : ∀ k, k < d → FOk w A0 (s + 5 + 4 * k)) : ∀ (m k : Nat) (A : xQ), k + m = d → Srch w A0 A → Srch w A0 (xit (fun k B => aMeetF w (s + 5 + 4 * k) B) m k A) := by
  intro m
  induction m with
  | zero => intro k A _ h; exact h
  | succ m ih =>
    intro k A hk0 h
    exact ih (k + 1) _ (by omega) (h.mF hW (hS.2.2.2.2.2 k (by omega)).2 (hk k (by omega)))
theorem Srch.mS {s : Nat} (h : Srch w A0 A) (hW : xW0 T R w) (hS : xSt0 T R s) (hk : SOk w A0 s) : Srch w A0 (aMeetS w s A) := by
  obtain ⟨k1, k2, k3, k4, k5, k6⟩ := xSt0.k hW hS
  unfold aMeetS
  rw [h.k k4 k5 k6, h.k k4 k5 k6]
  refine Srch.mFs hW hS hk.2.1 hk.2.2.2.2.2.2 _ 0 _ (by omega) ?_
  split
  · next e => exact h.meet (hk.2.2.2.2.2.1 e) k1 k2 k3
  · exact h
theorem Srch.ww (h : Srch w A0 A) {k : Nat} : A.1 w k = A0.1 w k := h.1.2 w k (by omega) (by omega) (by omega)
theorem Srch.mRs (hW : xW0 T R w) {n : Nat} (hn : n ≤ 3) (hk : ∀ t, t < n → SOk w A0 (w + 11 + 25 * t)) : ∀ (m t : Nat) (A : xQ), t + m = n → Srch w A0 A → Srch w A0 (xit (fun t B => aMeetS w (w + 11 + 25 * t) B) m t A) := by
  intro m
  induction m with
  | zero => intro t A _ h; exact h
  | succ m ih =>
    intro t A ht h
    exact ih (t + 1) _ (by omega) (h.mS hW (hW.2.2.2.2.2 t (by omega)).2 (hk t (by omega)))
theorem Srch.mR (h : Srch w A0 A) (hW : xW0 T R w) (hk : WOk w A0) : Srch w A0 (aMeetR w A) := by
  unfold aMeetR
  rw [h.ww]
  exact Srch.mRs hW hk.1 hk.2.1 _ 0 A (by omega) h
theorem Srch.mO (h : Srch w A0 A) (hk : WOk w A0) {i : Nat} (hi : i < A.1 (w + 2) 7) : Srch w A0 (aMeetO w i A) := by
  obtain ⟨g1, g2, g3⟩ := h.2.2.2 i hi
  unfold aMeetO
  have e3 := h.1.2 (w + 3) (A.1 (w + 10) i) (by omega) (by omega) (by omega)
  rw [e3] at g3
  rw [h.1.2 (w + 5) _ (by omega) (by omega) (by omega)]
  exact Srch.it (g := fun j => A.1 (w + 10) i * 3 + j) (fun c hc => (hk.2.2 _ g1).2.2.2 g3 c hc) (by omega) (by omega) (by omega) _ 0 A (by omega) h
theorem Srch.bfs (hk : WOk w A0) : ∀ (n i : Nat) (A : xQ), Srch w A0 A → Srch w A0 (aBfs w n i A) := by
  intro n
  induction n with
  | zero => intro i A h; exact h
  | succ n ih =>
    intro i A h
    unfold aBfs
    split
    · next hi => exact ih _ _ (h.mO hk hi)
    · exact h
theorem Srch.find (hW : xW0 T R w) (hk : WOk w A0) : Srch w A0 (aFind w A0) := Srch.bfs hk _ _ _ ((aBegin_s w A0).mR hW hk)
end SK
theorem l101a {z : Nat} {T : Nat → Option xT} {R : Nat → Nat → Option Nat} {w : Nat} {A0 : xQ} {P : xR → Prop} {f t k n : Nat} (hW : xW0 T R w) (hF : xF0 T R f) (hs6 : A0.1 f 3 ≤ 6) (hn : n = 5 + A0.1 f 3) (hv : ∀ c, c < n → VC w A0 (f + 2) (f + 3) c) : ∀ (m j : Nat) (A : xQ), j + m = n → Srch w A0 A → xP 101 107 [(0, .ref w), (1, .int (nI t)), (2, .int (nI k))] [] 0 0 (xm z T R (xit (fun j B => aMeet w (f + 2) (f + 3) j B) m j A)) P → xP 101 77 [(0, .ref w), (1, .int (nI t)), (2, .int (nI k)), (3, .ref f), (4, .int (nI j))] [] 0 0 (xm z T R A) P := by
  obtain ⟨k1, k2, k3, k4, k5, k6⟩ := xF0.k hW hF
  have f1 := hF.1
  have f2 := hF.2.1
  intro m
  induction m with
  | zero =>
    intro j A hj hs hk
    have e := hs.k (i := 3) k4 k5 k6
    refine xp_iload rfl rfl ?_
    refine xp_iconst (n := 5) rfl (by decide) ?_
    refine xp_aload_n rfl rfl ?_
    refine xp_gfi rfl rfl (by decide) (by decide) (by first | assumption | exact hW.1 | exact hW.2.2.2.1 | exact hW.2.2.2.2.1.1) ?_
    refine xp_iadd rfl ?_
    refine xp_icge 107 rfl (by decide) (by omega) (by omega) (fun h85 => ?_) (fun h85 => ?_)
    · skip
      refine xp_weak [(0, .ref w), (1, .int (nI t)), (2, .int (nI k))] (xle_cons rfl (xle_cons rfl (xle_cons rfl (xle_nil _)))) (by simp [xnd]) ?_
      exact hk
    · exfalso; omega
  | succ m ih =>
    intro j A hj hs hk
    have e := hs.k (i := 3) k4 k5 k6
    have hvj := hv j (by omega)
    obtain ⟨m1, m2⟩ := hs.c64 hvj k1 k2 k3
    refine xp_iload rfl rfl ?_
    refine xp_iconst (n := 5) rfl (by decide) ?_
    refine xp_aload_n rfl rfl ?_
    refine xp_gfi rfl rfl (by decide) (by decide) (by first | assumption | exact hW.1 | exact hW.2.2.2.1 | exact hW.2.2.2.2.1.1) ?_
    refine xp_iadd rfl ?_
    refine xp_icge 107 rfl (by decide) (by omega) (by omega) (fun h85 => ?_) (fun h85 => ?_)
    · exfalso; omega
    · skip
      refine xp_aload_n rfl rfl ?_
      refine xp_gfa rfl rfl (by decide) (by decide) (by first | assumption | exact hW.1 | exact hW.2.2.2.1 | exact hW.2.2.2.2.1.1) (by first | assumption | exact hW.2.1 | exact hW.2.2.1) ?_
      refine xp_aload_n rfl rfl ?_
      refine xp_gfa rfl rfl (by decide) (by decide) (by first | assumption | exact hW.1 | exact hW.2.2.2.1 | exact hW.2.2.2.2.1.1) (by first | assumption | exact hW.2.1 | exact hW.2.2.1) ?_
      refine xp_iload rfl rfl ?_
      refine xp_iv rfl rfl (Nat.le_of_ble_eq_true rfl) (by decide) (by decide) (by decide) (Nat.le_of_ble_eq_true rfl) rfl (xrcv1 (by decide) (by exact hW.2.2.2.2.1.1)) (c64 hW.2.2.2.2.1 hF.2.2 (by omega) (by omega) m1 m2) rfl ?_
      refine xp_iinc rfl rfl (by decide) (nI_inc _) ?_
      refine xp_goto 77 rfl (by decide) ?_
      refine xp_weak [(0, .ref w), (1, .int (nI t)), (2, .int (nI k)), (3, .ref f), (4, .int (nI (j + 1)))] (xle_cons rfl (xle_cons rfl (xle_cons rfl (xle_cons rfl (xle_cons rfl (xle_nil _)))))) (by simp [xnd]) ?_
      exact ih (j + 1) _ (by omega) (hs.meet hvj k1 k2 k3) hk
theorem l101b {z : Nat} {T : Nat → Option xT} {R : Nat → Nat → Option Nat} {w : Nat} {A0 : xQ} {P : xR → Prop} {s t d : Nat} (ht : t < 3) (hs0 : s = w + 11 + 25 * t) (hW : xW0 T R w) (hd : d = A0.1 s 3) (hk0 : SOk w A0 s) : ∀ (m k : Nat) (A : xQ), k + m = d → Srch w A0 A → xP 101 113 [(0, .ref w), (1, .int (nI t))] [] 0 0 (xm z T R (xit (fun k B => aMeetF w (s + 5 + 4 * k) B) m k A)) P → xP 101 49 [(0, .ref w), (1, .int (nI t)), (2, .int (nI k))] [] 0 0 (xm z T R A) P := by
  obtain ⟨r1, hS⟩ := hW.2.2.2.2.2 t ht
  rw [← hs0] at r1 hS
  obtain ⟨k1, k2, k3, k4, k5, k6⟩ := xSt0.k hW hS
  have s1 := hS.1
  have s2 := hS.2.1
  have s3 := hS.2.2.1
  have hd5 := hk0.2.1
  intro m
  induction m with
  | zero =>
    intro k A hj hs hk
    have e := hs.k (i := 3) k4 k5 k6
    refine xp_iload_n rfl rfl ?_
    refine xp_aload_n rfl rfl ?_
    refine xp_gfa rfl rfl (by decide) (by decide) (by first | assumption | exact hW.1 | exact hW.2.2.2.1 | exact hW.2.2.2.2.1.1) (by first | assumption | exact hW.2.1 | exact hW.2.2.1) ?_
    refine xp_iload_n rfl rfl ?_
    refine xp_aald rfl (by first | assumption | exact hW.1 | exact hW.2.2.2.1 | exact hW.2.2.2.2.1.1) (by decide) (by decide) (by omega) (by omega) (by first | assumption | exact hW.2.1 | exact hW.2.2.1) ?_
    refine xp_gfi rfl rfl (by decide) (by decide) (by first | assumption | exact hW.1 | exact hW.2.2.2.1 | exact hW.2.2.2.2.1.1) ?_
    refine xp_icge 113 rfl (by decide) (by omega) (by omega) (fun h59 => ?_) (fun h59 => ?_)
    · skip
      refine xp_weak [(0, .ref w), (1, .int (nI t))] (xle_cons rfl (xle_cons rfl (xle_nil _))) (by simp [xnd]) ?_
      exact hk
    · exfalso; omega
  | succ m ih =>
    intro k A hj hs hk
    have e := hs.k (i := 3) k4 k5 k6
    obtain ⟨r2, hF⟩ := hS.2.2.2.2.2 k (by omega)
    have hfk := hk0.2.2.2.2.2.2 k (by omega)
    obtain ⟨n1, n2, n3, n4, n5, n6⟩ := xF0.k hW hF
    have e2 := hs.k (i := 3) n4 n5 n6
    refine xp_iload_n rfl rfl ?_
    refine xp_aload_n rfl rfl ?_
    refine xp_gfa rfl rfl (by decide) (by decide) (by first | assumption | exact hW.1 | exact hW.2.2.2.1 | exact hW.2.2.2.2.1.1) (by first | assumption | exact hW.2.1 | exact hW.2.2.1) ?_
    refine xp_iload_n rfl rfl ?_
    refine xp_aald rfl (by first | assumption | exact hW.1 | exact hW.2.2.2.1 | exact hW.2.2.2.2.1.1) (by decide) (by decide) (by omega) (by omega) (by first | assumption | exact hW.2.1 | exact hW.2.2.1) ?_
    refine xp_gfi rfl rfl (by decide) (by decide) (by first | assumption | exact hW.1 | exact hW.2.2.2.1 | exact hW.2.2.2.2.1.1) ?_
    refine xp_icge 113 rfl (by decide) (by omega) (by omega) (fun h59 => ?_) (fun h59 => ?_)
    · exfalso; omega
    · skip
      refine xp_aload_n rfl rfl ?_
      refine xp_gfa rfl rfl (by decide) (by decide) (by first | assumption | exact hW.1 | exact hW.2.2.2.1 | exact hW.2.2.2.2.1.1) (by first | assumption | exact hW.2.1 | exact hW.2.2.1) ?_
      refine xp_iload_n rfl rfl ?_
      refine xp_aald rfl (by first | assumption | exact hW.1 | exact hW.2.2.2.1 | exact hW.2.2.2.2.1.1) (by decide) (by decide) (by omega) (by omega) (by first | assumption | exact hW.2.1 | exact hW.2.2.1) ?_
      refine xp_gfa rfl rfl (by decide) (by decide) (by first | assumption | exact hW.1 | exact hW.2.2.2.1 | exact hW.2.2.2.2.1.1) (by first | assumption | exact hW.2.1 | exact hW.2.2.1) ?_
      refine xp_iload_n rfl rfl ?_
      refine xp_aald rfl (by first | assumption | exact hW.1 | exact hW.2.2.2.1 | exact hW.2.2.2.2.1.1) (by decide) (by decide) (by omega) (by omega) (by first | assumption | exact hW.2.1 | exact hW.2.2.1) ?_
      refine xp_astore_n rfl (by decide) ?_
      refine xp_iconst (n := 0) rfl (by decide) ?_
      refine xp_istore rfl (by decide) ?_
      refine xp_weak [(0, .ref w), (1, .int (nI t)), (2, .int (nI k)), (3, .ref (s + 5 + 4 * k)), (4, .int (nI 0))] (xle_cons rfl (xle_cons rfl (xle_cons rfl (xle_cons rfl (xle_cons rfl (xle_nil _)))))) (by simp [xnd]) ?_
      refine l101a hW hF hfk.2.2.1 rfl hfk.2.2.2.2 (5 + A0.1 (s + 5 + 4 * k) 3) 0 A (by omega) hs ?_
      rw [← e2]
      skip
      refine xp_iinc rfl rfl (by decide) (nI_inc _) ?_
      refine xp_goto 49 rfl (by decide) ?_
      refine xp_weak [(0, .ref w), (1, .int (nI t)), (2, .int (nI (k + 1)))] (xle_cons rfl (xle_cons rfl (xle_cons rfl (xle_nil _)))) (by simp [xnd]) ?_
      exact ih (k + 1) _ (by omega) (hs.mF hW hF hfk) hk
theorem l101c {z : Nat} {T : Nat → Option xT} {R : Nat → Nat → Option Nat} {w : Nat} {A0 : xQ} {P : xR → Prop} {n : Nat} (hW : xW0 T R w) (hn : n = A0.1 w 2) (hk0 : WOk w A0) : ∀ (m t : Nat) (A : xQ), t + m = n → Srch w A0 A → xP 101 119 [(0, .ref w)] [] 0 0 (xm z T R (xit (fun t B => aMeetS w (w + 11 + 25 * t) B) m t A)) P → xP 101 9 [(0, .ref w), (1, .int (nI t))] [] 0 0 (xm z T R A) P := by
  have hn3 := hk0.1
  intro m
  induction m with
  | zero =>
    intro t A hj hs hk
    have e := hs.ww (k := 2)
    refine xp_iload_n rfl rfl ?_
    refine xp_aload_n rfl rfl ?_
    refine xp_gfi rfl rfl (by decide) (by decide) (by first | assumption | exact hW.1 | exact hW.2.2.2.1 | exact hW.2.2.2.2.1.1) ?_
    refine xp_icge 119 rfl (by decide) (by omega) (by omega) (fun h14 => ?_) (fun h14 => ?_)
    · skip
      refine xp_weak [(0, .ref w)] (xle_cons rfl (xle_nil _)) (by simp [xnd]) ?_
      exact hk
    · exfalso; omega
  | succ m ih =>
    intro t A hj hs hk
    have e := hs.ww (k := 2)
    obtain ⟨r1, hS⟩ := hW.2.2.2.2.2 t (by omega)
    have hsk := hk0.2.1 t (by omega)
    obtain ⟨k1, k2, k3, k4, k5, k6⟩ := xSt0.k hW hS
    have s1 := hS.1
    have s2 := hS.2.1
    have s4 := hS.2.2.2.1
    have e2 := hs.k (i := 2) k4 k5 k6
    have e3 := hs.k (i := 3) k4 k5 k6
    have b1 := hsk.1
    refine xp_iload_n rfl rfl ?_
    refine xp_aload_n rfl rfl ?_
    refine xp_gfi rfl rfl (by decide) (by decide) (by first | assumption | exact hW.1 | exact hW.2.2.2.1 | exact hW.2.2.2.2.1.1) ?_
    refine xp_icge 119 rfl (by decide) (by omega) (by omega) (fun h14 => ?_) (fun h14 => ?_)
    · exfalso; omega
    · skip
      refine xp_aload_n rfl rfl ?_
      refine xp_gfa rfl rfl (by decide) (by decide) (by first | assumption | exact hW.1 | exact hW.2.2.2.1 | exact hW.2.2.2.2.1.1) (by first | assumption | exact hW.2.1 | exact hW.2.2.1) ?_
      refine xp_iload_n rfl rfl ?_
      refine xp_aald rfl (by first | assumption | exact hW.1 | exact hW.2.2.2.1 | exact hW.2.2.2.2.1.1) (by decide) (by decide) (by omega) (by omega) (by first | assumption | exact hW.2.1 | exact hW.2.2.1) ?_
      refine xp_gfi rfl rfl (by decide) (by decide) (by first | assumption | exact hW.1 | exact hW.2.2.2.1 | exact hW.2.2.2.2.1.1) ?_
      refine xp_iconst (n := 1) rfl (by decide) ?_
      refine xp_icne 47 rfl (by decide) (by omega) (by omega) (fun h27 => ?_) (fun h27 => ?_)
      · skip
        refine xp_iconst (n := 0) rfl (by decide) ?_
        refine xp_istore_n rfl (by decide) ?_
        have es : ∀ C, C = (if A.1 (w + 11 + 25 * t) 2 = 1 then aMeet w (w + 11 + 25 * t + 3) (w + 11 + 25 * t + 4) 0 A else A) → Srch w A0 C → xP 101 49 [(0, .ref w), (1, .int (nI t)), (2, .int (nI 0))] [] 0 0 (xm z T R C) P := by
          intro C hC hsC
          refine l101b (by omega) rfl hW rfl hsk (A0.1 (w + 11 + 25 * t) 3) 0 C (by omega) hsC ?_
          refine xp_iinc rfl rfl (by decide) (nI_inc _) ?_
          refine xp_goto 9 rfl (by decide) ?_
          refine xp_weak [(0, .ref w), (1, .int (nI (t + 1)))] (xle_cons rfl (xle_cons rfl (xle_nil _))) (by simp [xnd]) ?_
          have ea : aMeetS w (w + 11 + 25 * t) A = xit (fun k B => aMeetF w (w + 11 + 25 * t + 5 + 4 * k) B) (A0.1 (w + 11 + 25 * t) 3) 0 C := by unfold aMeetS; rw [e3, hC]
          rw [← ea]
          exact ih (t + 1) _ (by omega) (hs.mS hW hS hsk) hk
        refine xp_weak [(0, .ref w), (1, .int (nI t)), (2, .int (nI 0))] (xle_cons rfl (xle_cons rfl (xle_cons rfl (xle_nil _)))) (by simp [xnd]) ?_
        first
          | exact es _ (if_neg h27).symm hs
          | exact es _ (if_pos h27).symm (hs.meet (hsk.2.2.2.2.2.1 (by omega)) k1 k2 k3)
      · skip
        refine xp_aload_n rfl rfl ?_
        refine xp_gfa rfl rfl (by decide) (by decide) (by first | assumption | exact hW.1 | exact hW.2.2.2.1 | exact hW.2.2.2.2.1.1) (by first | assumption | exact hW.2.1 | exact hW.2.2.1) ?_
        refine xp_aload_n rfl rfl ?_
        refine xp_gfa rfl rfl (by decide) (by decide) (by first | assumption | exact hW.1 | exact hW.2.2.2.1 | exact hW.2.2.2.2.1.1) (by first | assumption | exact hW.2.1 | exact hW.2.2.1) ?_
        refine xp_iload_n rfl rfl ?_
        refine xp_aald rfl (by first | assumption | exact hW.1 | exact hW.2.2.2.1 | exact hW.2.2.2.2.1.1) (by decide) (by decide) (by omega) (by omega) (by first | assumption | exact hW.2.1 | exact hW.2.2.1) ?_
        refine xp_gfa rfl rfl (by decide) (by decide) (by first | assumption | exact hW.1 | exact hW.2.2.2.1 | exact hW.2.2.2.2.1.1) (by first | assumption | exact hW.2.1 | exact hW.2.2.1) ?_
        refine xp_iconst (n := 0) rfl (by decide) ?_
        refine xp_iv rfl rfl (Nat.le_of_ble_eq_true rfl) (by decide) (by decide) (by decide) (Nat.le_of_ble_eq_true rfl) rfl (xrcv1 (by decide) (by exact hW.2.2.2.2.1.1)) (c64 hW.2.2.2.2.1 hS.2.2.2.2.1 (by omega) (by omega) (hs.c64 (hsk.2.2.2.2.2.1 (by omega)) k1 k2 k3).1 (hs.c64 (hsk.2.2.2.2.2.1 (by omega)) k1 k2 k3).2) rfl ?_
        refine xp_iconst (n := 0) rfl (by decide) ?_
        refine xp_istore_n rfl (by decide) ?_
        have es : ∀ C, C = (if A.1 (w + 11 + 25 * t) 2 = 1 then aMeet w (w + 11 + 25 * t + 3) (w + 11 + 25 * t + 4) 0 A else A) → Srch w A0 C → xP 101 49 [(0, .ref w), (1, .int (nI t)), (2, .int (nI 0))] [] 0 0 (xm z T R C) P := by
          intro C hC hsC
          refine l101b (by omega) rfl hW rfl hsk (A0.1 (w + 11 + 25 * t) 3) 0 C (by omega) hsC ?_
          refine xp_iinc rfl rfl (by decide) (nI_inc _) ?_
          refine xp_goto 9 rfl (by decide) ?_
          refine xp_weak [(0, .ref w), (1, .int (nI (t + 1)))] (xle_cons rfl (xle_cons rfl (xle_nil _))) (by simp [xnd]) ?_
          have ea : aMeetS w (w + 11 + 25 * t) A = xit (fun k B => aMeetF w (w + 11 + 25 * t + 5 + 4 * k) B) (A0.1 (w + 11 + 25 * t) 3) 0 C := by unfold aMeetS; rw [e3, hC]
          rw [← ea]
          exact ih (t + 1) _ (by omega) (hs.mS hW hS hsk) hk
        refine xp_weak [(0, .ref w), (1, .int (nI t)), (2, .int (nI 0))] (xle_cons rfl (xle_cons rfl (xle_cons rfl (xle_nil _)))) (by simp [xnd]) ?_
        first
          | exact es _ (if_neg h27).symm hs
          | exact es _ (if_pos h27).symm (hs.meet (hsk.2.2.2.2.2.1 (by omega)) k1 k2 k3)
