-- load: the reference's frames and threads
/-- what is being read, seen as if it were there already -/
def vB (B : xQ) : xQ := (fun a j => B.1 (if 199 ≤ a ∧ a ≤ 206 then a + 18 else if 210 ≤ a ∧ a ≤ 212 then a + 15 else a) j, fun a j => B.2 (if a = 207 then 228 else a) j)
theorem vB_1 {B : xQ} {a j : Nat} (h : 199 ≤ a ∧ a ≤ 206) : (vB B).1 a j = B.1 (a + 18) j := by
  show B.1 (if 199 ≤ a ∧ a ≤ 206 then a + 18 else _) j = _
  rw [if_pos h]
section VV
variable {u lo hi : Nat} {A A2 : xQ}
theorem VV.ka {k : Nat} {v : Int64} (h : VV u A k v) (hI : CI u A) (hk : ∀ o, o < A.1 (u + 2) 4 → A2.1 (u + 3) o = A.1 (u + 3) o) : VV u A2 k v := by
  refine ⟨h.1, fun q => ?_⟩
  obtain ⟨o, h1, h2, h3⟩ := h.2 q
  refine ⟨o, h1, h2, ?_⟩
  have h7 := hI.2.2.2.2.2.2 o h1
  rw [hk o (by omega)]
  exact h3
theorem FOk.ka {f : Nat} (h : FOk u A f) (hI : CI u A) (hk : ∀ o, o < A.1 (u + 2) 4 → A2.1 (u + 3) o = A.1 (u + 3) o) (h1 : ∀ j, A2.1 f j = A.1 f j) (h2 : ∀ j, A2.1 (f + 2) j = A.1 (f + 2) j) (h3 : ∀ j, A2.2 (f + 3) j = A.2 (f + 3) j) : FOk u A2 f := by
  obtain ⟨g1, g2, g3, g4, g5⟩ := h
  refine ⟨by rw [h1]; exact g1, by rw [h1]; exact g2, by rw [h1]; exact g3, by rw [h2]; exact g4, fun c hc => ?_⟩
  rw [h1] at hc
  have := VV.ka (g5 c hc) hI hk
  show VV u A2 (A2.1 (f + 2) c) (A2.2 (f + 3) c)
  rw [h2, h3]
  exact this
theorem SOk.ka {s : Nat} (h : SOk u A s) (hI : CI u A) (hk : ∀ o, o < A.1 (u + 2) 4 → A2.1 (u + 3) o = A.1 (u + 3) o) (h1 : ∀ a j, s ≤ a → a < s + 25 → A2.1 a j = A.1 a j) (h2 : ∀ a j, s ≤ a → a < s + 25 → A2.2 a j = A.2 a j) : SOk u A2 s := by
  obtain ⟨g1, g2, g3, g4, g5, g6, g7⟩ := h
  have e := fun j => h1 s j (by omega) (by omega)
  refine ⟨by rw [e]; exact g1, by rw [e]; exact g2, by rw [e, e]; exact g3, by rw [e, e]; exact g4, by rw [e]; exact g5, fun q => ?_, fun k q => ?_⟩
  · rw [e] at q
    have := VV.ka (g6 q) hI hk
    show VV u A2 (A2.1 (s + 3) 0) (A2.2 (s + 4) 0)
    rw [h1 _ _ (by omega) (by omega), h2 _ _ (by omega) (by omega)]
    exact this
  · rw [e] at q
    exact (g7 k q).ka hI hk (fun j => h1 _ _ (by omega) (by omega)) (fun j => h1 _ _ (by omega) (by omega)) (fun j => h2 _ _ (by omega) (by omega))
theorem aRo_vv {k : Nat} (hI : CI u A) (hu : u = 12 ∨ u = 103) (hl : 1 ≤ A.1 102 5) (hk : k = 3 ∨ k = 4) (hn : (aRo u k A).2.1 102 2 = 4294967294) : VV u (aRo u k A).2 k (lN (aRo u k A).1) := by
  have hle := aRo_le (k := k) hI hl
  refine ⟨by omega, fun _ => ⟨(aRo u k A).1, hle, rfl, ?_⟩⟩
  have hp := hI.rb hu 0 (min (A.1 (u + 2) 4) (A.1 102 5 - 1))
  unfold aRo at hn ⊢
  have e3 := fun o => aRb_ne 0 (min (A.1 (u + 2) 4) (A.1 102 5 - 1)) A (a := u + 3) (j := o) (by omega)
  generalize aRb 0 (min (A.1 (u + 2) 4) (A.1 102 5 - 1)) A = r at *
  by_cases q : r.2.1 102 2 = 4294967294
  · rw [if_pos q] at hn ⊢
    by_cases q2 : r.1 = A.1 (u + 2) 4
    · rw [if_pos q2]
      show (xsI (xsI r.2 (u + 3) r.1 k) (u + 2) 4 _).1 (u + 3) r.1 = k
      rw [xsI_ne (by omega), xsI_eq]
    · rw [if_neg q2] at hn ⊢
      by_cases q3 : A.1 (u + 3) r.1 = k
      · rw [if_pos q3]
        rw [e3]; exact q3
      · rw [if_neg q3] at hn
        exact absurd hn (aRef_nf hp.pl)
  · rw [if_neg q] at hn
    exact absurd hn q
theorem aVal_vv (hI : CI u A) (hu : u = 12 ∨ u = 103) (hl : 1 ≤ A.1 102 5) (hn : (aVal u A).2.2.1 102 2 = 4294967294) : VV u (aVal u A).2.2 (aVal u A).1 (aVal u A).2.1 := by
  have hk4 := (aRb_in (lo := 0) (hi := 4) (A := A) (by omega)).2
  have hI1 := hI.rb hu 0 4
  have hl1 : 1 ≤ (aRb 0 4 A).2.1 102 5 := by rw [aRb_ne _ _ _ (by omega)]; exact hl
  unfold aVal at hn ⊢
  generalize aRb 0 4 A = r at *
  by_cases q1 : r.1 = 1
  · rw [if_pos q1]
    exact VV.num (by show 1 ≤ 2; omega)
  · rw [if_neg q1] at hn ⊢
    by_cases q2 : r.1 = 2
    · rw [if_pos q2]
      exact VV.num (by show 2 ≤ 2; omega)
    · rw [if_neg q2] at hn ⊢
      by_cases q3 : r.1 = 0
      · rw [if_pos q3]
        exact VV.num (by show 0 ≤ 2; omega)
      · rw [if_neg q3] at hn ⊢
        exact aRo_vv hI1 hu hl1 (by omega) hn
end VV
/-- the cells from lo to hi, here and there -/
def CR (u ka na d e lo hi : Nat) (A B : xQ) : Prop := ∀ c, lo ≤ c → c < hi → B.1 224 (d + c) = A.1 ka (e + c) ∧ B.2 228 (d + c) = A.2 na (e + c) ∧ VC u A ka na (e + c)
/-- one value is read on both sides -/
theorem m163c {z : Nat} {T : Nat → Option xT} {R : Nat → Nat → Option Nat} {A B : xQ} {w u ka na d e c : Nat} (hL : xLay T R w) (hu : u = 12 ∨ u = 103) (hI : CI u A) (hl : 1 ≤ A.1 102 5) (hR : RR u A B) (hc : d + c < 240) (hka : ka ≠ 99 ∧ ka ≠ 100 ∧ ka ≠ 102 ∧ ka ≠ u + 2 ∧ ka ≠ u + 3) : ∃ B2, xF 163 [.ref 189, .int (nI (d + c))] (xm z T R B) (.inr none, xm z T R B2) ∧ RR u (aRv u ka na (e + c) A) B2 ∧ ((aRv u ka na (e + c) A).1 102 2 = 4294967294 → CR u ka na d e c (c + 1) (aRv u ka na (e + c) A) B2) ∧ KB (d + c) (d + c + 1) 0 0 0 0 0 0 B B2 := by
  obtain ⟨B2, h1, h2, h3, h4⟩ := m163 (z := z) hL hu hI hl hR hc
  have e2 : ∀ a j, a ≠ ka → (aRv u ka na (e + c) A).1 a j = (aVal u A).2.2.1 a j := fun a j q => xsI_ne (by omega)
  refine ⟨B2, h1, h2.oth (fun a j q => e2 a j (by omega)) (fun _ _ _ => rfl) (fun o ho => (h2.2.2.2.2.1 o ho).2), fun q c2 q1 q2 => ?_, h4⟩
  have ec : c2 = c := by omega
  rw [ec]
  rw [e2 _ _ (by omega)] at q
  obtain ⟨y1, y2⟩ := h3 q
  have z1 : (aRv u ka na (e + c) A).1 ka (e + c) = (aVal u A).1 := xsI_eq
  have z2 : (aRv u ka na (e + c) A).2 na (e + c) = (aVal u A).2.1 := xsJ_eq
  refine ⟨by rw [z1]; exact y1, by rw [z2]; exact y2, ?_⟩
  show VV u _ ((aRv u ka na (e + c) A).1 ka (e + c)) ((aRv u ka na (e + c) A).2 na (e + c))
  rw [z1, z2]
  exact (aVal_vv hI hu hl q).ka (hI.val hu hl) (fun o _ => e2 _ _ (by omega))
/-- reading further cells keeps those that were read -/
theorem CR.rv {u ka na d e lo hi i : Nat} {A B B2 : xQ} (h : CR u ka na d e lo hi A B) (hu : u = 12 ∨ u = 103) (hI : CI u A) (hl : 1 ≤ A.1 102 5) (hi2 : e + hi ≤ i) (hka : ka ≠ 99 ∧ ka ≠ 100 ∧ ka ≠ 102 ∧ ka ≠ u + 2 ∧ ka ≠ u + 3) (hB1 : ∀ c, lo ≤ c → c < hi → B2.1 224 (d + c) = B.1 224 (d + c)) (hB2 : ∀ c, lo ≤ c → c < hi → B2.2 228 (d + c) = B.2 228 (d + c)) : CR u ka na d e lo hi (aRv u ka na i A) B2 := by
  intro c q1 q2
  obtain ⟨h1, h2, h3⟩ := h c q1 q2
  have z1 : (aRv u ka na i A).1 ka (e + c) = A.1 ka (e + c) := by
    show (xsI (aVal u A).2.2 ka i (aVal u A).1).1 ka (e + c) = _
    rw [xsI_ne (by omega)]
    exact aVal_ne A (by omega) (by omega) (by omega) hu
  have z2 : (aRv u ka na i A).2 na (e + c) = A.2 na (e + c) := by
    show (xsJ _ na i (aVal u A).2.1).2 na (e + c) = _
    rw [xsJ_ne (by omega)]
    show (aVal u A).2.2.2 na (e + c) = _
    rw [aVal_2]
  refine ⟨by rw [hB1 c q1 q2, z1]; exact h1, by rw [hB2 c q1 q2, z2]; exact h2, ?_⟩
  show VV u _ ((aRv u ka na i A).1 ka (e + c)) ((aRv u ka na i A).2 na (e + c))
  rw [z1, z2]
  exact VV.ka h3 hI (KA.rv (lo := 0) (hi := ka + na + 1) (i := i) (ka := ka) (na := na) hI hu hl (by omega) (by omega) (by omega) (by omega) hka).2.2.2.1
theorem rvs_lo {u ka na : Nat} (hu : u = 12 ∨ u = 103) (hka : ka ≠ 99 ∧ ka ≠ 100 ∧ ka ≠ 102 ∧ ka ≠ u + 2 ∧ ka ≠ u + 3) : ∀ (m i : Nat) (A : xQ) (j : Nat), j < i → (xit (aRv u ka na) m i A).1 ka j = A.1 ka j ∧ (xit (aRv u ka na) m i A).2 na j = A.2 na j := by
  intro m
  induction m with
  | zero => intro i A j _; exact ⟨rfl, rfl⟩
  | succ m ih =>
    intro i A j hj
    obtain ⟨h1, h2⟩ := ih (i + 1) (aRv u ka na i A) j (by omega)
    refine ⟨h1.trans ?_, h2.trans ?_⟩
    · show (xsI (aVal u A).2.2 ka i (aVal u A).1).1 ka j = _
      rw [xsI_ne (by omega)]
      exact aVal_ne A (by omega) (by omega) (by omega) hu
    · show (xsJ _ na i (aVal u A).2.1).2 na j = _
      rw [xsJ_ne (by omega)]
      show (aVal u A).2.2.2 na j = _
      rw [aVal_2]
theorem RR.fl {u : Nat} {A A2 B : xQ} (h : RR u A B) (hf : ¬ A.1 102 2 = 4294967294) (e1 : A2.1 99 1 = A.1 99 1) (e2 : ∀ i, A2.1 100 i = A.1 100 i) (e3 : A2.1 102 2 = A.1 102 2) : RR u A2 B := by
  obtain ⟨r1, r2, r3, r4, r5, r6, r7⟩ := h
  refine ⟨by rw [e1]; exact r1, fun i hi => by rw [e2]; exact r2 i (by rw [← e1]; exact hi), r3, r4, r5, fun q => ?_, fun q => ?_⟩
  · rw [e3] at q; exact absurd q hf
  · rw [e3] at q ⊢; exact r7 q
theorem RR.ka {u lo hi : Nat} {A A2 B : xQ} (h : RR u A B) (hf : ¬ A.1 102 2 = 4294967294) (hK : KA u lo hi A A2) (hu : u = 12 ∨ u = 103) (hlo : (99 < lo ∨ hi ≤ 99) ∧ (100 < lo ∨ hi ≤ 100)) : RR u A2 B := h.fl hf (hK.1 _ _ (by omega) (by omega) (by omega) (by omega)) (fun i => hK.1 _ _ (by omega) (by omega) (by omega) (by omega)) (hK.2.2.2.2.2.1 hf)
theorem l164a {z : Nat} {T : Nat → Option xT} {R : Nat → Nat → Option Nat} {w u f p : Nat} {Q : xR → Prop} (hL : xLay T R w) (hu : u = 12 ∨ u = 103) (hf : Ap u f) (hp : p < 15) : ∀ (m i : Nat) (A B : xQ), i + m = 4 → CI u A → 1 ≤ A.1 102 5 → RR u A B → (A.1 102 2 = 4294967294 → CR u (f + 2) (f + 3) (10 * p) 1 0 i A B) → (∀ B2, RR u (xit (aRv u (f + 2) (f + 3)) m (1 + i) A) B2 → KB (10 * p) (10 * p + 4) 0 0 0 0 0 0 B B2 → ((xit (aRv u (f + 2) (f + 3)) m (1 + i) A).1 102 2 = 4294967294 → CR u (f + 2) (f + 3) (10 * p) 1 0 4 (xit (aRv u (f + 2) (f + 3)) m (1 + i) A) B2) → xP 164 108 [(0, .ref 189), (1, .int (nI p))] [] 0 0 (xm z T R B2) Q) → xP 164 85 [(0, .ref 189), (1, .int (nI p)), (4, .int (nI i))] [] 0 0 (xm z T R B) Q := by
  have f1 := hf.1
  intro m
  induction m with
  | zero =>
    intro i A B hi hI hl hR hC hQ
    have e4 : i = 4 := by omega
    subst e4
    have hQ2 := hQ B hR (KB.refl B) hC
    refine xp_iload rfl rfl ?_
    refine xp_iconst (n := 4) rfl (by decide) ?_
    refine xp_icge 108 rfl (by decide) (by omega) (by omega) (fun h88 => ?_) (fun h88 => ?_)
    · skip
      refine xp_weak [(0, .ref 189), (1, .int (nI p))] (xle_cons rfl (xle_cons rfl (xle_nil _))) (by simp [xnd]) ?_
      exact hQ2
    · exfalso; omega
  | succ m ih =>
    intro i A B hi hI hl hR hC hQ
    obtain ⟨B1, g1, g2, g3, g4⟩ := m163c (z := z) (ka := f + 2) (na := f + 3) (d := 10 * p) (e := 1) (c := i) hL hu hI hl hR (by omega) (by omega)
    have hK := KA.rv (lo := f) (hi := f + 4) (ka := f + 2) (na := f + 3) (i := 1 + i) hI hu hl (by omega) (by omega) (by omega) (by omega) (by omega)
    have hih := ih (i + 1) (aRv u (f + 2) (f + 3) (1 + i) A) B1 (by omega) hK.ci (hK.l hl) g2 (fun q => by
      have c1 := (hC (hK.nf q)).rv (B2 := B1) (i := 1 + i) hu hI hl (by omega) (by omega) (fun c q1 q2 => g4.1 224 _ (by omega) (by omega) (by omega) (by omega) (by omega) (by omega)) (fun c q1 q2 => g4.2.1 228 _ (by omega))
      intro c q1 q2
      by_cases e : c = i
      · exact g3 q c (by omega) (by omega)
      · exact c1 c q1 (by omega)) (fun B2 h1 h2 h3 => hQ B2 h1 ((g4.mono (by omega) (by omega) (by omega) (by omega)).trans h2) h3)
    refine xp_iload rfl rfl ?_
    refine xp_iconst (n := 4) rfl (by decide) ?_
    refine xp_icge 108 rfl (by decide) (by omega) (by omega) (fun h88 => ?_) (fun h88 => ?_)
    · exfalso; omega
    · skip
      refine xp_aload_n rfl rfl ?_
      refine xp_bipush (n := 10) rfl (by decide) ?_
      refine xp_iload_n rfl rfl ?_
      refine xp_imul rfl ?_
      refine xp_iload rfl rfl ?_
      refine xp_iadd rfl ?_
      refine xp_iv rfl rfl (Nat.le_of_ble_eq_true rfl) (by decide) (by decide) (by decide) (Nat.le_of_ble_eq_true rfl) rfl (xrcv1 (by decide) (by first | assumption | exact hL.t rfl)) (g1) rfl ?_
      refine xp_iinc rfl rfl (by decide) (nI_inc _) ?_
      refine xp_goto 85 rfl (by decide) ?_
      refine xp_weak [(0, .ref 189), (1, .int (nI p)), (4, .int (nI (i + 1)))] (xle_cons rfl (xle_cons rfl (xle_cons rfl (xle_nil _)))) (by simp [xnd]) ?_
      exact hih
theorem l164b {z : Nat} {T : Nat → Option xT} {R : Nat → Nat → Option Nat} {w u f p n : Nat} (hL : xLay T R w) (hu : u = 12 ∨ u = 103) (hf : Ap u f) (hp : p < 15) (hn6 : n ≤ 6) : ∀ (m i : Nat) (A B : xQ), i + m = 4 + n → CI u A → 1 ≤ A.1 102 5 → RR u A B → B.1 223 p < 256 → (A.1 102 2 = 4294967294 → B.1 223 p = n) → (A.1 102 2 = 4294967294 → CR u (f + 2) (f + 3) (10 * p) 1 0 i A B) → xP 164 125 [(0, .ref 189), (1, .int (nI p)), (4, .int (nI i))] [] 0 0 (xm z T R B) (fun r => ∃ B2, r = (.inr none, xm z T R B2) ∧ RR u (xit (aRv u (f + 2) (f + 3)) m (1 + i) A) B2 ∧ KB (10 * p) (10 * p + 10) 0 0 0 0 0 0 B B2 ∧ ((xit (aRv u (f + 2) (f + 3)) m (1 + i) A).1 102 2 = 4294967294 → CR u (f + 2) (f + 3) (10 * p) 1 0 (4 + n) (xit (aRv u (f + 2) (f + 3)) m (1 + i) A) B2)) := by
  have f1 := hf.1
  intro m
  induction m with
  | zero =>
    intro i A B hi hI hl hR hb hd hC
    have e4 : i = 4 + n := by omega
    subst e4
    have h38 := hR.2.2.1
    have hres : ∃ B2, ((Sum.inr none : Nat ⊕ Option Value), xm z T R B) = (.inr none, xm z T R B2) ∧ RR u A B2 ∧ KB (10 * p) (10 * p + 10) 0 0 0 0 0 0 B B2 ∧ (A.1 102 2 = 4294967294 → CR u (f + 2) (f + 3) (10 * p) 1 0 (4 + n) A B2) := ⟨B, rfl, hR, KB.refl B, hC⟩
    by_cases hE : A.1 102 2 = 4294967294
    · have hd2 := hd hE
      refine xp_iload rfl rfl ?_
      refine xp_iconst (n := 4) rfl (by decide) ?_
      refine xp_aload_n rfl rfl ?_
      refine xp_gfa rfl rfl (by decide) (by decide) (by first | assumption | exact hL.t rfl) (by first | assumption | exact hL.r rfl | exact hL.2.2.2.2.2) ?_
      refine xp_iload_n rfl rfl ?_
      refine xp_iald rfl (by first | assumption | exact hL.t rfl) (by omega) (by omega) ?_
      rw [hd2]
      refine xp_iadd rfl ?_
      refine xp_icge 162 rfl (by decide) (by omega) (by omega) (fun h135 => ?_) (fun h135 => ?_)
      · skip
        refine xp_return rfl (by decide) (by decide) (by decide) ?_
        exact hres
      · exfalso; omega
    · have h38b := (hR.2.2.2.2.2.2 hE).1
      refine xp_iload rfl rfl ?_
      refine xp_iconst (n := 4) rfl (by decide) ?_
      refine xp_aload_n rfl rfl ?_
      refine xp_gfa rfl rfl (by decide) (by decide) (by first | assumption | exact hL.t rfl) (by first | assumption | exact hL.r rfl | exact hL.2.2.2.2.2) ?_
      refine xp_iload_n rfl rfl ?_
      refine xp_iald rfl (by first | assumption | exact hL.t rfl) (by omega) (by omega) ?_
      refine xp_iadd rfl ?_
      refine xp_icge 162 rfl (by decide) (by omega) (by omega) (fun h135 => ?_) (fun h135 => ?_)
      · skip
        refine xp_return rfl (by decide) (by decide) (by decide) ?_
        exact hres
      · skip
        refine xp_aload_n rfl rfl ?_
        refine xp_gfi rfl rfl (by decide) (by decide) (by first | assumption | exact hL.t rfl) ?_
        refine xp_ifne 162 rfl (by decide) (by omega) (fun h142 => ?_) (fun h142 => ?_)
        · skip
          refine xp_return rfl (by decide) (by decide) (by decide) ?_
          exact hres
        · exfalso; omega
  | succ m ih =>
    intro i A B hi hI hl hR hb hd hC
    have h38 := hR.2.2.1
    by_cases hE : A.1 102 2 = 4294967294
    · have hd2 := hd hE
      have h38b := (hR.2.2.2.2.2.1 hE).1
      obtain ⟨B1, g1, g2, g3, g4⟩ := m163c (z := z) (ka := f + 2) (na := f + 3) (d := 10 * p) (e := 1) (c := i) hL hu hI hl hR (by omega) (by omega)
      have hK := KA.rv (lo := f) (hi := f + 4) (ka := f + 2) (na := f + 3) (i := 1 + i) hI hu hl (by omega) (by omega) (by omega) (by omega) (by omega)
      have e223 : B1.1 223 p = B.1 223 p := g4.1 _ _ (by omega) (by omega) (by omega) (by omega) (by omega) (by omega)
      have hih := ih (i + 1) (aRv u (f + 2) (f + 3) (1 + i) A) B1 (by omega) hK.ci (hK.l hl) g2 (by omega) (fun _ => by omega) (fun q => by
        have c1 := (hC (hK.nf q)).rv (B2 := B1) (i := 1 + i) hu hI hl (by omega) (by omega) (fun c q1 q2 => g4.1 224 _ (by omega) (by omega) (by omega) (by omega) (by omega) (by omega)) (fun c q1 q2 => g4.2.1 228 _ (by omega))
        intro c q1 q2
        by_cases e : c = i
        · exact g3 q c (by omega) (by omega)
        · exact c1 c q1 (by omega))
      have hih2 : xP 164 125 [(0, .ref 189), (1, .int (nI p)), (4, .int (nI (i + 1)))] [] 0 0 (xm z T R B1) (fun r => ∃ B2, r = (.inr none, xm z T R B2) ∧ RR u (xit (aRv u (f + 2) (f + 3)) (m + 1) (1 + i) A) B2 ∧ KB (10 * p) (10 * p + 10) 0 0 0 0 0 0 B B2 ∧ ((xit (aRv u (f + 2) (f + 3)) (m + 1) (1 + i) A).1 102 2 = 4294967294 → CR u (f + 2) (f + 3) (10 * p) 1 0 (4 + n) (xit (aRv u (f + 2) (f + 3)) (m + 1) (1 + i) A) B2)) := by
        obtain ⟨r, k1, B2, k2, k3, k4, k5⟩ := hih
        exact ⟨r, k1, B2, k2, k3, (g4.mono (by omega) (by omega) (by omega) (by omega)).trans k4, k5⟩
      refine xp_iload rfl rfl ?_
      refine xp_iconst (n := 4) rfl (by decide) ?_
      refine xp_aload_n rfl rfl ?_
      refine xp_gfa rfl rfl (by decide) (by decide) (by first | assumption | exact hL.t rfl) (by first | assumption | exact hL.r rfl | exact hL.2.2.2.2.2) ?_
      refine xp_iload_n rfl rfl ?_
      refine xp_iald rfl (by first | assumption | exact hL.t rfl) (by omega) (by omega) ?_
      rw [hd2]
      refine xp_iadd rfl ?_
      refine xp_icge 162 rfl (by decide) (by omega) (by omega) (fun h135 => ?_) (fun h135 => ?_)
      · exfalso; omega
      · skip
        refine xp_aload_n rfl rfl ?_
        refine xp_gfi rfl rfl (by decide) (by decide) (by first | assumption | exact hL.t rfl) ?_
        rw [h38b]
        refine xp_ifne 162 rfl (by decide) (by omega) (fun h142 => ?_) (fun h142 => ?_)
        · exfalso; omega
        · skip
          refine xp_aload_n rfl rfl ?_
          refine xp_bipush (n := 10) rfl (by decide) ?_
          refine xp_iload_n rfl rfl ?_
          refine xp_imul rfl ?_
          refine xp_iload rfl rfl ?_
          refine xp_iadd rfl ?_
          refine xp_iv rfl rfl (Nat.le_of_ble_eq_true rfl) (by decide) (by decide) (by decide) (Nat.le_of_ble_eq_true rfl) rfl (xrcv1 (by decide) (by first | assumption | exact hL.t rfl)) (g1) rfl ?_
          refine xp_iinc rfl rfl (by decide) (nI_inc _) ?_
          refine xp_goto 125 rfl (by decide) ?_
          refine xp_weak [(0, .ref 189), (1, .int (nI p)), (4, .int (nI (i + 1)))] (xle_cons rfl (xle_cons rfl (xle_cons rfl (xle_nil _)))) (by simp [xnd]) ?_
          exact hih2
    · have h38b := (hR.2.2.2.2.2.2 hE).1
      have hK := KA.rvs (lo := f) (hi := f + 4) (ka := f + 2) (na := f + 3) hu (by omega) (by omega) (by omega) (by omega) (by omega) (m + 1) (1 + i) A hI hl
      have hres : ∃ B2, ((Sum.inr none : Nat ⊕ Option Value), xm z T R B) = (.inr none, xm z T R B2) ∧ RR u (xit (aRv u (f + 2) (f + 3)) (m + 1) (1 + i) A) B2 ∧ KB (10 * p) (10 * p + 10) 0 0 0 0 0 0 B B2 ∧ ((xit (aRv u (f + 2) (f + 3)) (m + 1) (1 + i) A).1 102 2 = 4294967294 → CR u (f + 2) (f + 3) (10 * p) 1 0 (4 + n) (xit (aRv u (f + 2) (f + 3)) (m + 1) (1 + i) A) B2) := ⟨B, rfl, hR.ka hE hK hu (by have := hf.2; omega), KB.refl B, fun q => absurd (hK.nf q) hE⟩
      refine xp_iload rfl rfl ?_
      refine xp_iconst (n := 4) rfl (by decide) ?_
      refine xp_aload_n rfl rfl ?_
      refine xp_gfa rfl rfl (by decide) (by decide) (by first | assumption | exact hL.t rfl) (by first | assumption | exact hL.r rfl | exact hL.2.2.2.2.2) ?_
      refine xp_iload_n rfl rfl ?_
      refine xp_iald rfl (by first | assumption | exact hL.t rfl) (by omega) (by omega) ?_
      refine xp_iadd rfl ?_
      refine xp_icge 162 rfl (by decide) (by omega) (by omega) (fun h135 => ?_) (fun h135 => ?_)
      · skip
        refine xp_return rfl (by decide) (by decide) (by decide) ?_
        exact hres
      · skip
        refine xp_aload_n rfl rfl ?_
        refine xp_gfi rfl rfl (by decide) (by decide) (by first | assumption | exact hL.t rfl) ?_
        refine xp_ifne 162 rfl (by decide) (by omega) (fun h142 => ?_) (fun h142 => ?_)
        · skip
          refine xp_return rfl (by decide) (by decide) (by decide) ?_
          exact hres
        · exfalso; omega
/-- a frame's closure, here and there -/
def ClR (u f p : Nat) (A B : xQ) : Prop := ((A.1 (f + 2) 0 = 0 ∧ B.1 222 p = 4294967295) ∨ (A.1 (f + 2) 0 = 4 ∧ B.1 222 p = oN (A.2 (f + 3) 0))) ∧ VC u A (f + 2) (f + 3) 0
theorem aRc_0 {u f : Nat} {A : xQ} {k : Nat} {v : Int64} {D : xQ} : (xsJ (xsI D (f + 2) 0 k) (f + 3) 0 v).1 (f + 2) 0 = k ∧ (xsJ (xsI D (f + 2) 0 k) (f + 3) 0 v).2 (f + 3) 0 = v := ⟨xsI_eq, xsJ_eq⟩
theorem l164c {z : Nat} {T : Nat → Option xT} {R : Nat → Nat → Option Nat} {A B : xQ} {w u f p : Nat} {Q : xR → Prop} (hL : xLay T R w) (hu : u = 12 ∨ u = 103) (hf : Ap u f) (hp : p < 15) (hI : CI u A) (hl : 1 ≤ A.1 102 5) (hR : RR u A B) (hQ : ∀ B2, RR u (aRc u f A) B2 → KB 0 0 p (p + 1) 0 0 0 0 B B2 → B2.1 220 p = B.1 220 p → B2.1 221 p = B.1 221 p → ((aRc u f A).1 102 2 = 4294967294 → ClR u f p (aRc u f A) B2) → xP 164 82 [(0, .ref 189), (1, .int (nI p))] [] 0 0 (xm z T R B2) Q) : xP 164 27 [(0, .ref 189), (1, .int (nI p))] [] 0 0 (xm z T R B) Q := by
  have f1 := hf.1
  have hp4 := hI.pl
  have hn39 := hR.2.2.2.1
  obtain ⟨x, B1, g1, g2, g3, g4, g5, g6⟩ := m161k (z := z) (lo := 0) (hi := 4) hL hu hI hR (by omega)
  have hI1 := hI.rb hu 0 4
  have hl1 : 1 ≤ (aRb 0 4 A).2.1 102 5 := by rw [aRb_ne _ _ _ (by omega)]; exact hl
  have hk4 := (aRb_in (lo := 0) (hi := 4) (A := A) (by omega)).2
  have oth : ∀ (D D2 : xQ) (k x : Nat) (v : Int64), RR u D D2 → RR u (xsJ (xsI D (f + 2) 0 k) (f + 3) 0 v) (xsI D2 222 p x) := fun D D2 k x v h => h.oth (fun a j q => by show (xsI D (f + 2) 0 k).1 a j = _; exact xsI_ne (by omega)) (fun a j q => xsI_ne (by omega)) (fun o ho => by rw [xsI_ne (by omega)]; exact (h.2.2.2.2.1 o ho).2)
  have kep : ∀ (D2 : xQ) (x : Nat), KB 0 0 0 0 0 0 0 0 B D2 → KB 0 0 p (p + 1) 0 0 0 0 B (xsI D2 222 p x) := fun D2 x h => h.up.trans ⟨fun a j _ _ _ q _ _ => xsI_ne (by omega), fun _ _ _ => rfl, fun j _ _ _ _ => xsI_ne (by omega), by rw [xsI_ne (by omega)]⟩
  have k220 : ∀ (D2 : xQ) (x a : Nat), a = 220 ∨ a = 221 → KB 0 0 0 0 0 0 0 0 B D2 → (xsI D2 222 p x).1 a p = B.1 a p := fun D2 x a q h => by rw [xsI_ne (by omega)]; exact h.1 a p (by omega) (by omega) (by omega) (by omega) (by omega) (by omega)
  by_cases hE : (aRb 0 4 A).2.1 102 2 = 4294967294
  · have gx := g4 hE
    subst gx
    have t1 := (g2.2.2.2.2.2.1 hE).1
    have sn := (aRb_nf hE hp4).1
    have s3 := (hR.2.2.2.2.2.1 sn).2.2.1
    have e6 := (aRb_nf hE hp4).2.2.2.2.2
    unfold aRc at hQ
    have hw := m160b (z := z) (B := B1) (p := A.1 102 4) (c := 1) hL t1
    have x4 : (aRb 0 4 A).2.1 102 4 = A.1 102 4 + 1 := by rw [e6, xsI_eq]
    have hrr : RR u (aRef (aRb 0 4 A).2) (xsI (xsI B1 189 38 1) 189 37 (A.1 102 4)) := by
      have er : aRef (aRb 0 4 A).2 = xsI (aRb 0 4 A).2 102 2 (A.1 102 4) := by
        unfold aRef
        rw [if_pos hE, x4]
        rfl
      rw [er]
      have n38 : (xsI (xsI B1 189 38 1) 189 37 (A.1 102 4)).1 189 38 = 1 := by rw [xsI_ne (by omega), xsI_eq]
      exact g2.mk' hu (fun a j q => xsI_ne (by omega)) (fun a j q => by rw [xsI_ne (by omega), xsI_ne (by omega)]) (by omega) (by rw [xsI_ne (by omega), xsI_ne (by omega)]; exact g2.2.2.2.1) (fun q => by rw [xsI_eq] at q; omega) (fun _ => ⟨by omega, by rw [xsI_eq, xsI_eq]⟩)
    have hkk : KB 0 0 0 0 0 0 0 0 B (xsI (xsI B1 189 38 1) 189 37 (A.1 102 4)) := by
      refine g6.trans ⟨fun a j q _ _ _ _ _ => by rw [xsI_ne (by omega), xsI_ne (by omega)], fun _ _ _ => rfl, fun j q1 q2 q3 q4 => by rw [xsI_ne (by omega), xsI_ne (by omega)], ?_⟩
      rw [xsI_ne (by omega), xsI_eq, t1]
      omega
    have hfn : ¬ (aRef (aRb 0 4 A).2).1 102 2 = 4294967294 := aRef_nf hI1.pl
    generalize aRb 0 4 A = r at *
    have h5 : r.1 = 0 ∨ r.1 = 4 ∨ (0 < r.1 ∧ r.1 < 4) := by omega
    rcases h5 with hk | hk | hk
    · rw [if_neg (by omega), if_pos hk] at hQ
      rw [hk] at g1
      have hQ2 := hQ (xsI B1 222 p 4294967295) (oth _ _ 0 _ 0 g2) (kep _ _ g6) (k220 _ _ 220 (by omega) g6) (k220 _ _ 221 (by omega) g6) (fun _ => by
        obtain ⟨z1, z2⟩ := aRc_0 (u := u) (A := A) (f := f) (k := 0) (v := 0) (D := r.2)
        refine ⟨Or.inl ⟨z1, xsI_eq⟩, ?_⟩
        show VV u _ ((xsJ (xsI r.2 (f + 2) 0 0) (f + 3) 0 0).1 (f + 2) 0) _
        rw [z1]
        exact VV.num (by decide))
      refine xp_aload_n rfl rfl ?_
      refine xp_gfi rfl rfl (by decide) (by decide) (by first | assumption | exact hL.t rfl) ?_
      refine xp_istore_n rfl (by decide) ?_
      refine xp_aload_n rfl rfl ?_
      refine xp_iconst (n := 0) rfl (by decide) ?_
      refine xp_iconst (n := 4) rfl (by decide) ?_
      refine xp_iconst (n := 1) rfl (by decide) ?_
      refine xp_iv rfl rfl (Nat.le_of_ble_eq_true rfl) (by decide) (by decide) (by decide) (Nat.le_of_ble_eq_true rfl) rfl (xrcv1 (by decide) (by first | assumption | exact hL.t rfl)) (g1) rfl ?_
      refine xp_istore_n rfl (by decide) ?_
      refine xp_iload_n rfl rfl ?_
      refine xp_ifle 55 rfl (by decide) (by omega) (fun h41 => ?_) (fun h41 => ?_)
      · skip
        refine xp_aload_n rfl rfl ?_
        refine xp_gfa rfl rfl (by decide) (by decide) (by first | assumption | exact hL.t rfl) (by first | assumption | exact hL.r rfl | exact hL.2.2.2.2.2) ?_
        refine xp_iload_n rfl rfl ?_
        refine xp_iload_n rfl rfl ?_
        refine xp_iconst (n := 4) rfl (by decide) ?_
        refine xp_icne 80 rfl (by decide) (by omega) (by omega) (fun h62 => ?_) (fun h62 => ?_)
        · skip
          refine xp_iconst (n := 4294967295) rfl (by decide) ?_
          refine xp_iast rfl (by first | assumption | exact hL.t rfl) (by omega) (by omega) ?_
          refine xp_weak [(0, .ref 189), (1, .int (nI p))] (xle_cons rfl (xle_cons rfl (xle_nil _))) (by simp [xnd]) ?_
          exact hQ2
        · exfalso; omega
      · exfalso; omega
    · rw [if_pos hk] at hQ
      rw [hk] at g1
      obtain ⟨x2, B2, y1, y2, y3, y4, y5⟩ := m162 (z := z) (k := 4) hL hu hI1 hl1 g2 hE (by omega)
      have hQ2 := hQ (xsI B2 222 p x2) (oth _ _ 4 _ _ y2) (kep _ _ (g6.trans y5)) (k220 _ _ 220 (by omega) (g6.trans y5)) (k220 _ _ 221 (by omega) (g6.trans y5)) (fun q => by
        obtain ⟨z1, z2⟩ := aRc_0 (u := u) (A := A) (f := f) (k := 4) (v := lN (aRo u 4 r.2).1) (D := (aRo u 4 r.2).2)
        have q2 : (aRo u 4 r.2).2.1 102 2 = 4294967294 := by
          rw [← q]
          show _ = (xsI (aRo u 4 r.2).2 (f + 2) 0 4).1 102 2
          rw [xsI_ne (by omega)]
        have hle := aRo_le (k := 4) hI1 hl1
        refine ⟨Or.inr ⟨z1, ?_⟩, ?_⟩
        · rw [xsI_eq, z2, oN_lN (by omega)]
          exact y4 q2
        · show VV u _ ((xsJ (xsI (aRo u 4 r.2).2 (f + 2) 0 4) (f + 3) 0 (lN (aRo u 4 r.2).1)).1 (f + 2) 0) ((xsJ (xsI (aRo u 4 r.2).2 (f + 2) 0 4) (f + 3) 0 (lN (aRo u 4 r.2).1)).2 (f + 3) 0)
          rw [z1, z2]
          exact (aRo_vv hI1 hu hl1 (by omega) q2).ka (CI.ro (by omega) hI1 hu hl1) (fun o _ => by show (xsI (aRo u 4 r.2).2 (f + 2) 0 4).1 (u + 3) o = _; exact xsI_ne (by omega)))
      refine xp_aload_n rfl rfl ?_
      refine xp_gfi rfl rfl (by decide) (by decide) (by first | assumption | exact hL.t rfl) ?_
      refine xp_istore_n rfl (by decide) ?_
      refine xp_aload_n rfl rfl ?_
      refine xp_iconst (n := 0) rfl (by decide) ?_
      refine xp_iconst (n := 4) rfl (by decide) ?_
      refine xp_iconst (n := 1) rfl (by decide) ?_
      refine xp_iv rfl rfl (Nat.le_of_ble_eq_true rfl) (by decide) (by decide) (by decide) (Nat.le_of_ble_eq_true rfl) rfl (xrcv1 (by decide) (by first | assumption | exact hL.t rfl)) (g1) rfl ?_
      refine xp_istore_n rfl (by decide) ?_
      refine xp_iload_n rfl rfl ?_
      refine xp_ifle 55 rfl (by decide) (by omega) (fun h41 => ?_) (fun h41 => ?_)
      · exfalso; omega
      · skip
        refine xp_iload_n rfl rfl ?_
        refine xp_iconst (n := 4) rfl (by decide) ?_
        refine xp_icge 55 rfl (by decide) (by omega) (by omega) (fun h46 => ?_) (fun h46 => ?_)
        · skip
          refine xp_aload_n rfl rfl ?_
          refine xp_gfa rfl rfl (by decide) (by decide) (by first | assumption | exact hL.t rfl) (by first | assumption | exact hL.r rfl | exact hL.2.2.2.2.2) ?_
          refine xp_iload_n rfl rfl ?_
          refine xp_iload_n rfl rfl ?_
          refine xp_iconst (n := 4) rfl (by decide) ?_
          refine xp_icne 80 rfl (by decide) (by omega) (by omega) (fun h62 => ?_) (fun h62 => ?_)
          · exfalso; omega
          · skip
            refine xp_aload_n rfl rfl ?_
            refine xp_gfi rfl rfl (by decide) (by decide) (by first | assumption | exact hL.t rfl) ?_
            rw [t1]
            refine xp_ifne 80 rfl (by decide) (by omega) (fun h69 => ?_) (fun h69 => ?_)
            · exfalso; omega
            · skip
              refine xp_aload_n rfl rfl ?_
              refine xp_iconst (n := 4) rfl (by decide) ?_
              refine xp_iv rfl rfl (Nat.le_of_ble_eq_true rfl) (by decide) (by decide) (by decide) (Nat.le_of_ble_eq_true rfl) rfl (xrcv1 (by decide) (by first | assumption | exact hL.t rfl)) (y1) rfl ?_
              refine xp_goto 81 rfl (by decide) ?_
              refine xp_iast rfl (by first | assumption | exact hL.t rfl) (by omega) (by omega) ?_
              refine xp_weak [(0, .ref 189), (1, .int (nI p))] (xle_cons rfl (xle_cons rfl (xle_nil _))) (by simp [xnd]) ?_
              exact hQ2
        · exfalso; omega
    · rw [if_neg (by omega), if_neg (by omega)] at hQ
      have hQ2 := hQ (xsI (xsI (xsI B1 189 38 1) 189 37 (A.1 102 4)) 222 p 4294967295) (oth _ _ r.1 _ 0 hrr) (kep _ _ hkk) (k220 _ _ 220 (by omega) hkk) (k220 _ _ 221 (by omega) hkk) (fun q => absurd (by rw [← q]; show _ = (xsI (aRef r.2) (f + 2) 0 r.1).1 102 2; rw [xsI_ne (by omega)]) hfn)
      refine xp_aload_n rfl rfl ?_
      refine xp_gfi rfl rfl (by decide) (by decide) (by first | assumption | exact hL.t rfl) ?_
      rw [s3]
      refine xp_istore_n rfl (by decide) ?_
      refine xp_aload_n rfl rfl ?_
      refine xp_iconst (n := 0) rfl (by decide) ?_
      refine xp_iconst (n := 4) rfl (by decide) ?_
      refine xp_iconst (n := 1) rfl (by decide) ?_
      refine xp_iv rfl rfl (Nat.le_of_ble_eq_true rfl) (by decide) (by decide) (by decide) (Nat.le_of_ble_eq_true rfl) rfl (xrcv1 (by decide) (by first | assumption | exact hL.t rfl)) (g1) rfl ?_
      refine xp_istore_n rfl (by decide) ?_
      refine xp_iload_n rfl rfl ?_
      refine xp_ifle 55 rfl (by decide) (by omega) (fun h41 => ?_) (fun h41 => ?_)
      · exfalso; omega
      · skip
        refine xp_iload_n rfl rfl ?_
        refine xp_iconst (n := 4) rfl (by decide) ?_
        refine xp_icge 55 rfl (by decide) (by omega) (by omega) (fun h46 => ?_) (fun h46 => ?_)
        · exfalso; omega
        · skip
          refine xp_aload_n rfl rfl ?_
          refine xp_iload_n rfl rfl ?_
          refine xp_iconst (n := 1) rfl (by decide) ?_
          refine xp_iv rfl rfl (Nat.le_of_ble_eq_true rfl) (by decide) (by decide) (by decide) (Nat.le_of_ble_eq_true rfl) rfl (xrcv1 (by decide) (by first | assumption | exact hL.t rfl)) (hw) rfl ?_
          refine xp_aload_n rfl rfl ?_
          refine xp_gfa rfl rfl (by decide) (by decide) (by first | assumption | exact hL.t rfl) (by first | assumption | exact hL.r rfl | exact hL.2.2.2.2.2) ?_
          refine xp_iload_n rfl rfl ?_
          refine xp_iload_n rfl rfl ?_
          refine xp_iconst (n := 4) rfl (by decide) ?_
          refine xp_icne 80 rfl (by decide) (by omega) (by omega) (fun h62 => ?_) (fun h62 => ?_)
          · skip
            refine xp_iconst (n := 4294967295) rfl (by decide) ?_
            refine xp_iast rfl (by first | assumption | exact hL.t rfl) (by omega) (by omega) ?_
            refine xp_weak [(0, .ref 189), (1, .int (nI p))] (xle_cons rfl (xle_cons rfl (xle_nil _))) (by simp [xnd]) ?_
            exact hQ2
          · exfalso; omega
  · have hx := g5 hE
    have t1 := g2.2.2.2.2.2.2 hE
    have t2 := g2.2.2.1
    have e0 : (aRb 0 4 A).1 = 0 := by
      unfold aRb at hE ⊢
      by_cases hn : A.1 102 2 = 4294967294
      · rw [if_pos hn] at hE ⊢
        by_cases q : A.1 102 4 < A.1 99 1 ∧ 0 ≤ A.1 100 (A.1 102 4) ∧ A.1 100 (A.1 102 4) ≤ 4
        · rw [if_pos q] at hE
          exact absurd (by show (xsI A 102 4 _).1 102 2 = _; rw [xsI_ne (by omega)]; exact hn) hE
        · rw [if_neg q]
      · rw [if_neg hn]
    unfold aRc at hQ
    rw [if_neg (by omega), if_pos e0] at hQ
    have hQ2 := hQ (xsI B1 222 p 4294967295) (oth _ _ 0 _ 0 g2) (kep _ _ g6) (k220 _ _ 220 (by omega) g6) (k220 _ _ 221 (by omega) g6) (fun q => absurd (by rw [← q]; show _ = (xsI (aRb 0 4 A).2 (f + 2) 0 0).1 102 2; rw [xsI_ne (by omega)]) hE)
    refine xp_aload_n rfl rfl ?_
    refine xp_gfi rfl rfl (by decide) (by decide) (by first | assumption | exact hL.t rfl) ?_
    refine xp_istore_n rfl (by decide) ?_
    refine xp_aload_n rfl rfl ?_
    refine xp_iconst (n := 0) rfl (by decide) ?_
    refine xp_iconst (n := 4) rfl (by decide) ?_
    refine xp_iconst (n := 1) rfl (by decide) ?_
    refine xp_iv rfl rfl (Nat.le_of_ble_eq_true rfl) (by decide) (by decide) (by decide) (Nat.le_of_ble_eq_true rfl) rfl (xrcv1 (by decide) (by first | assumption | exact hL.t rfl)) (g1) rfl ?_
    refine xp_istore_n rfl (by decide) ?_
    refine xp_iload_n rfl rfl ?_
    refine xp_ifle 55 rfl (by decide) (by omega) (fun h41 => ?_) (fun h41 => ?_)
    · skip
      refine xp_aload_n rfl rfl ?_
      refine xp_gfa rfl rfl (by decide) (by decide) (by first | assumption | exact hL.t rfl) (by first | assumption | exact hL.r rfl | exact hL.2.2.2.2.2) ?_
      refine xp_iload_n rfl rfl ?_
      refine xp_iload_n rfl rfl ?_
      refine xp_iconst (n := 4) rfl (by decide) ?_
      refine xp_icne 80 rfl (by decide) (by omega) (by omega) (fun h62 => ?_) (fun h62 => ?_)
      · skip
        refine xp_iconst (n := 4294967295) rfl (by decide) ?_
        refine xp_iast rfl (by first | assumption | exact hL.t rfl) (by omega) (by omega) ?_
        refine xp_weak [(0, .ref 189), (1, .int (nI p))] (xle_cons rfl (xle_cons rfl (xle_nil _))) (by simp [xnd]) ?_
        exact hQ2
      · skip
        refine xp_aload_n rfl rfl ?_
        refine xp_gfi rfl rfl (by decide) (by decide) (by first | assumption | exact hL.t rfl) ?_
        refine xp_ifne 80 rfl (by decide) (by omega) (fun h69 => ?_) (fun h69 => ?_)
        · skip
          refine xp_iconst (n := 4294967295) rfl (by decide) ?_
          refine xp_iast rfl (by first | assumption | exact hL.t rfl) (by omega) (by omega) ?_
          refine xp_weak [(0, .ref 189), (1, .int (nI p))] (xle_cons rfl (xle_cons rfl (xle_nil _))) (by simp [xnd]) ?_
          exact hQ2
        · exfalso; omega
    · skip
      refine xp_iload_n rfl rfl ?_
      refine xp_iconst (n := 4) rfl (by decide) ?_
      refine xp_icge 55 rfl (by decide) (by omega) (by omega) (fun h46 => ?_) (fun h46 => ?_)
      · skip
        refine xp_aload_n rfl rfl ?_
        refine xp_gfa rfl rfl (by decide) (by decide) (by first | assumption | exact hL.t rfl) (by first | assumption | exact hL.r rfl | exact hL.2.2.2.2.2) ?_
        refine xp_iload_n rfl rfl ?_
        refine xp_iload_n rfl rfl ?_
        refine xp_iconst (n := 4) rfl (by decide) ?_
        refine xp_icne 80 rfl (by decide) (by omega) (by omega) (fun h62 => ?_) (fun h62 => ?_)
        · skip
          refine xp_iconst (n := 4294967295) rfl (by decide) ?_
          refine xp_iast rfl (by first | assumption | exact hL.t rfl) (by omega) (by omega) ?_
          refine xp_weak [(0, .ref 189), (1, .int (nI p))] (xle_cons rfl (xle_cons rfl (xle_nil _))) (by simp [xnd]) ?_
          exact hQ2
        · skip
          refine xp_aload_n rfl rfl ?_
          refine xp_gfi rfl rfl (by decide) (by decide) (by first | assumption | exact hL.t rfl) ?_
          refine xp_ifne 80 rfl (by decide) (by omega) (fun h69 => ?_) (fun h69 => ?_)
          · skip
            refine xp_iconst (n := 4294967295) rfl (by decide) ?_
            refine xp_iast rfl (by first | assumption | exact hL.t rfl) (by omega) (by omega) ?_
            refine xp_weak [(0, .ref 189), (1, .int (nI p))] (xle_cons rfl (xle_cons rfl (xle_nil _))) (by simp [xnd]) ?_
            exact hQ2
          · exfalso; omega
      · exfalso; omega
