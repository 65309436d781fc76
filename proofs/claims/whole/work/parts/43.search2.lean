-- THE SEARCH: it finds just what is in use
def aFd (w : Nat) (A : xQ) (o : Nat) : Prop := A.1 (w + 9) o ≠ 4294967295
def Rf (A : xQ) (ka na c o : Nat) : Prop := 3 ≤ A.1 ka c ∧ o = oN (A.2 na c)
def FIx (w : Nat) (A : xQ) : Prop := ∀ o, o < 24 → aFd w A o → A.1 (w + 10) (A.1 (w + 9) o) = o
def Sr (w : Nat) (A0 A : xQ) : Prop := Srch w A0 A ∧ FIx w A
def Ext (w : Nat) (A B : xQ) : Prop := A.1 (w + 2) 7 ≤ B.1 (w + 2) 7 ∧ (∀ q, q < A.1 (w + 2) 7 → B.1 (w + 10) q = A.1 (w + 10) q) ∧ ∀ o, o < 24 → aFd w A o → B.1 (w + 9) o = A.1 (w + 9) o
theorem Ext.refl (w : Nat) (A : xQ) : Ext w A A := ⟨Nat.le_refl _, fun _ _ => rfl, fun _ _ _ => rfl⟩
theorem Ext.trans {w : Nat} {A B C : xQ} (h : Ext w A B) (g : Ext w B C) : Ext w A C := by
  refine ⟨Nat.le_trans h.1 g.1, fun q hq => ?_, fun o ho hf => ?_⟩
  · rw [g.2.1 q (by have := h.1; omega), h.2.1 q hq]
  · rw [g.2.2 o ho (by unfold aFd; rw [h.2.2 o ho hf]; exact hf), h.2.2 o ho hf]
section GC
variable {w : Nat} {A0 A : xQ}
theorem meet1_fd {n : Nat} (h : FInv w A) (hx : FIx w A) (hn : n < 24) : (∀ o, aFd w (aMeet1 w n A) o ↔ aFd w A o ∨ o = n) ∧ FIx w (aMeet1 w n A) ∧ Ext w A (aMeet1 w n A) := by
  by_cases hu : A.1 (w + 9) n = 4294967295
  · obtain ⟨e1, e2, e3⟩ := aMeet1_new hu
    have hfc := h.fc hn hu
    have hfd : ∀ o, aFd w (aMeet1 w n A) o ↔ aFd w A o ∨ o = n := by
      intro o
      unfold aFd
      rw [e1]
      by_cases hq : o = n
      · rw [if_pos hq]
        exact ⟨fun _ => Or.inr hq, fun _ => by omega⟩
      · rw [if_neg hq]
        exact ⟨fun z => Or.inl z, fun z => z.resolve_right hq⟩
    refine ⟨hfd, fun o ho hf => ?_, by omega, fun q hq => ?_, fun o ho hf => ?_⟩
    · rw [e1]
      by_cases hq : o = n
      · rw [if_pos hq, e2, if_pos rfl, hq]
      · rw [if_neg hq]
        have hA := ((hfd o).mp hf).resolve_right hq
        have hlt := (h.1 o ho).resolve_left hA
        rw [e2, if_neg (by omega)]
        exact hx o ho hA
    · rw [e2, if_neg (by omega)]
    · rw [e1, if_neg (fun (z : o = n) => hf (by rw [z]; exact hu))]
  · have e : aMeet1 w n A = A := by unfold aMeet1; rw [if_neg hu]
    rw [e]
    exact ⟨fun o => ⟨fun z => Or.inl z, fun z => z.elim id (fun q => q ▸ hu)⟩, hx, Ext.refl w A⟩
theorem meet_fd {ka na i : Nat} (h : Sr w A0 A) (hv : VC w A0 ka na i) (h1 : ka ≠ w + 9) (h2 : ka ≠ w + 10) (h3 : ka ≠ w + 2) : Sr w A0 (aMeet w ka na i A) ∧ Ext w A (aMeet w ka na i A) ∧ ∀ o, aFd w (aMeet w ka na i A) o ↔ aFd w A o ∨ Rf A0 ka na i o := by
  have hm := h.1.meet hv h1 h2 h3
  unfold Sr
  revert hm
  unfold aMeet
  rw [h.1.k h1 h2 h3, h.1.1.1]
  split
  · rename_i hk
    intro hm
    obtain ⟨o1, o2⟩ := hv.o hk
    obtain ⟨q1, q2, q3⟩ := meet1_fd h.1.2 h.2 o1
    refine ⟨⟨hm, q2⟩, q3, fun o => ?_⟩
    rw [q1]
    exact ⟨fun z => z.elim Or.inl (fun q => Or.inr ⟨by omega, q⟩), fun z => z.elim Or.inl (fun q => Or.inr q.2)⟩
  · rename_i hk
    intro hm
    have := hv.1
    exact ⟨h, Ext.refl w A, fun o => ⟨fun z => Or.inl z, fun z => z.elim id (fun q => by have := q.1; omega)⟩⟩
theorem fd_it {g : Nat → xQ → xQ} {Q : Nat → Nat → Prop} {n : Nat} (hg : ∀ i A, i < n → Sr w A0 A → Sr w A0 (g i A) ∧ Ext w A (g i A) ∧ ∀ o, aFd w (g i A) o ↔ aFd w A o ∨ Q i o) : ∀ (m i : Nat) (A : xQ), i + m ≤ n → Sr w A0 A → Sr w A0 (xit g m i A) ∧ Ext w A (xit g m i A) ∧ ∀ o, aFd w (xit g m i A) o ↔ aFd w A o ∨ ∃ c, i ≤ c ∧ c < i + m ∧ Q c o := by
  intro m
  induction m with
  | zero => intro i A _ h; exact ⟨h, Ext.refl w A, fun o => ⟨fun z => Or.inl z, fun z => z.elim id (fun ⟨c, q1, q2, _⟩ => by omega)⟩⟩
  | succ m ih =>
    intro i A hi h
    obtain ⟨a1, a2, a3⟩ := hg i A (by omega) h
    obtain ⟨b1, b2, b3⟩ := ih (i + 1) (g i A) (by omega) a1
    refine ⟨b1, a2.trans b2, fun o => ?_⟩
    show aFd w (xit g m (i + 1) (g i A)) o ↔ _
    rw [b3, a3]
    constructor
    · rintro ((q | q) | ⟨c, q1, q2, q3⟩)
      · exact Or.inl q
      · exact Or.inr ⟨i, by omega, by omega, q⟩
      · exact Or.inr ⟨c, by omega, by omega, q3⟩
    · rintro (q | ⟨c, q1, q2, q3⟩)
      · exact Or.inl (Or.inl q)
      · by_cases hc : c = i
        · exact Or.inl (Or.inr (hc ▸ q3))
        · exact Or.inr ⟨c, by omega, by omega, q3⟩
variable {T : Nat → Option xT} {R : Nat → Nat → Option Nat}
def RF (A0 : xQ) (f o : Nat) : Prop := ∃ c, c < 5 + A0.1 f 3 ∧ Rf A0 (f + 2) (f + 3) c o
def RS (A0 : xQ) (s o : Nat) : Prop := (A0.1 s 2 = 1 ∧ Rf A0 (s + 3) (s + 4) 0 o) ∨ ∃ k, k < A0.1 s 3 ∧ RF A0 (s + 5 + 4 * k) o
def Rt (w : Nat) (A0 : xQ) (o : Nat) : Prop := ∃ t, t < A0.1 w 2 ∧ RS A0 (w + 11 + 25 * t) o
def Cd (w : Nat) (A0 : xQ) (p o : Nat) : Prop := ∃ j, j < A0.1 (w + 5) p ∧ Rf A0 (w + 7) (w + 8) (p * 3 + j) o
theorem mF_fd {f : Nat} (hW : xW0 T R w) (hF : xF0 T R f) (hk : FOk w A0 f) (h : Sr w A0 A) : Sr w A0 (aMeetF w f A) ∧ Ext w A (aMeetF w f A) ∧ ∀ o, aFd w (aMeetF w f A) o ↔ aFd w A o ∨ RF A0 f o := by
  obtain ⟨k1, k2, k3, k4, k5, k6⟩ := xF0.k hW hF
  unfold aMeetF
  rw [h.1.k k4 k5 k6]
  obtain ⟨q1, q2, q3⟩ := fd_it (w := w) (A0 := A0) (n := 5 + A0.1 f 3) (g := fun j B => aMeet w (f + 2) (f + 3) j B) (Q := fun c o => Rf A0 (f + 2) (f + 3) c o) (fun i A hi hs => meet_fd hs (hk.2.2.2.2 i hi) k1 k2 k3) (5 + A0.1 f 3) 0 A (by omega) h
  refine ⟨q1, q2, fun o => ?_⟩
  rw [q3]
  exact ⟨fun z => z.elim Or.inl (fun ⟨c, _, h2, h3⟩ => Or.inr ⟨c, by omega, h3⟩), fun z => z.elim Or.inl (fun ⟨c, h2, h3⟩ => Or.inr ⟨c, by omega, by omega, h3⟩)⟩
theorem mS_fd {s : Nat} (hW : xW0 T R w) (hS : xSt0 T R s) (hk : SOk w A0 s) (h : Sr w A0 A) : Sr w A0 (aMeetS w s A) ∧ Ext w A (aMeetS w s A) ∧ ∀ o, aFd w (aMeetS w s A) o ↔ aFd w A o ∨ RS A0 s o := by
  obtain ⟨k1, k2, k3, k4, k5, k6⟩ := xSt0.k hW hS
  unfold aMeetS
  rw [h.1.k k4 k5 k6, h.1.k k4 k5 k6]
  have h5 := hk.2.1
  have h1 : Sr w A0 (if A0.1 s 2 = 1 then aMeet w (s + 3) (s + 4) 0 A else A) ∧ Ext w A (if A0.1 s 2 = 1 then aMeet w (s + 3) (s + 4) 0 A else A) ∧ ∀ o, aFd w (if A0.1 s 2 = 1 then aMeet w (s + 3) (s + 4) 0 A else A) o ↔ aFd w A o ∨ (A0.1 s 2 = 1 ∧ Rf A0 (s + 3) (s + 4) 0 o) := by
    by_cases e : A0.1 s 2 = 1
    · rw [if_pos e]
      obtain ⟨q1, q2, q3⟩ := meet_fd h (hk.2.2.2.2.2.1 e) k1 k2 k3
      exact ⟨q1, q2, fun o => by rw [q3]; exact ⟨fun z => z.elim Or.inl (fun q => Or.inr ⟨e, q⟩), fun z => z.elim Or.inl (fun q => Or.inr q.2)⟩⟩
    · rw [if_neg e]
      exact ⟨h, Ext.refl w A, fun o => ⟨fun z => Or.inl z, fun z => z.elim id (fun q => absurd q.1 e)⟩⟩
  generalize (if A0.1 s 2 = 1 then aMeet w (s + 3) (s + 4) 0 A else A) = B at h1
  obtain ⟨b1, b2, b3⟩ := h1
  obtain ⟨q1, q2, q3⟩ := fd_it (w := w) (A0 := A0) (n := A0.1 s 3) (g := fun k B => aMeetF w (s + 5 + 4 * k) B) (Q := fun k o => RF A0 (s + 5 + 4 * k) o) (fun i A hi hs => mF_fd hW (hS.2.2.2.2.2 i (by omega)).2 (hk.2.2.2.2.2.2 i hi) hs) (A0.1 s 3) 0 B (by omega) b1
  refine ⟨q1, b2.trans q2, fun o => ?_⟩
  rw [q3, b3]
  unfold RS
  constructor
  · rintro ((z | z) | ⟨c, _, h2, h3⟩)
    · exact Or.inl z
    · exact Or.inr (Or.inl z)
    · exact Or.inr (Or.inr ⟨c, by omega, h3⟩)
  · rintro (z | z | ⟨c, h2, h3⟩)
    · exact Or.inl (Or.inl z)
    · exact Or.inl (Or.inr z)
    · exact Or.inr ⟨c, by omega, by omega, h3⟩
theorem mR_fd (hW : xW0 T R w) (hk : WOk w A0) (h : Sr w A0 A) : Sr w A0 (aMeetR w A) ∧ Ext w A (aMeetR w A) ∧ ∀ o, aFd w (aMeetR w A) o ↔ aFd w A o ∨ Rt w A0 o := by
  unfold aMeetR
  rw [h.1.ww]
  have h3 := hk.1
  obtain ⟨q1, q2, q3⟩ := fd_it (w := w) (A0 := A0) (n := A0.1 w 2) (g := fun t B => aMeetS w (w + 11 + 25 * t) B) (Q := fun t o => RS A0 (w + 11 + 25 * t) o) (fun i A hi hs => mS_fd hW (hW.2.2.2.2.2 i (by omega)).2 (hk.2.1 i hi) hs) (A0.1 w 2) 0 A (by omega) h
  refine ⟨q1, q2, fun o => ?_⟩
  rw [q3]
  exact ⟨fun z => z.elim Or.inl (fun ⟨c, _, h2, h3⟩ => Or.inr ⟨c, by omega, h3⟩), fun z => z.elim Or.inl (fun ⟨c, h2, h3⟩ => Or.inr ⟨c, by omega, by omega, h3⟩)⟩
theorem mO_fd (hk : WOk w A0) (h : Sr w A0 A) {i : Nat} (hi : i < A.1 (w + 2) 7) : Sr w A0 (aMeetO w i A) ∧ Ext w A (aMeetO w i A) ∧ ∀ o, aFd w (aMeetO w i A) o ↔ aFd w A o ∨ Cd w A0 (A.1 (w + 10) i) o := by
  obtain ⟨g1, g2, g3⟩ := h.1.2.2.2 i hi
  unfold aMeetO
  rw [h.1.k (by omega) (by omega) (by omega)] at g3
  rw [h.1.k (ka := w + 5) (by omega) (by omega) (by omega)]
  obtain ⟨q1, q2, q3⟩ := fd_it (w := w) (A0 := A0) (n := A0.1 (w + 5) (A.1 (w + 10) i)) (g := fun j B => aMeet w (w + 7) (w + 8) (A.1 (w + 10) i * 3 + j) B) (Q := fun j o => Rf A0 (w + 7) (w + 8) (A.1 (w + 10) i * 3 + j) o) (fun j A hj hs => meet_fd hs ((hk.2.2 _ g1).2.2.2 g3 j hj) (by omega) (by omega) (by omega)) (A0.1 (w + 5) (A.1 (w + 10) i)) 0 A (by omega) h
  refine ⟨q1, q2, fun o => ?_⟩
  rw [q3]
  exact ⟨fun z => z.elim Or.inl (fun ⟨c, _, h2, h3⟩ => Or.inr ⟨c, by omega, h3⟩), fun z => z.elim Or.inl (fun ⟨c, h2, h3⟩ => Or.inr ⟨c, by omega, by omega, h3⟩)⟩
theorem bfs_fd (hk : WOk w A0) : ∀ (n i : Nat) (A : xQ), i + n = 24 → Sr w A0 A → (∀ q, q < i → q < A.1 (w + 2) 7 → ∀ o, Cd w A0 (A.1 (w + 10) q) o → aFd w A o) → Sr w A0 (aBfs w n i A) ∧ Ext w A (aBfs w n i A) ∧ (∀ p o, p < 24 → aFd w (aBfs w n i A) p → Cd w A0 p o → aFd w (aBfs w n i A) o) ∧ (∀ o, aFd w A o → aFd w (aBfs w n i A) o) ∧ ∀ Z : Nat → Prop, (∀ o, aFd w A o → Z o) → (∀ p o, p < 24 → Z p → Cd w A0 p o → Z o) → ∀ o, aFd w (aBfs w n i A) o → Z o := by
  intro n
  induction n with
  | zero =>
    intro i A hi h hp
    refine ⟨h, Ext.refl w A, fun p o hp24 hf hc => ?_, fun _ z => z, fun Z z _ o => z o⟩
    have h1 := (h.1.2.1 p hp24).resolve_left hf
    have h2 := h.2 p hp24 hf
    have h3 := h.1.2.fc2
    exact hp (A.1 (w + 9) p) (by omega) h1 o (by rw [h2]; exact hc)
  | succ n ih =>
    intro i A hi h hp
    unfold aBfs
    by_cases hc : i < A.1 (w + 2) 7
    · rw [if_pos hc]
      obtain ⟨m1, m2, m3⟩ := mO_fd hk h hc
      obtain ⟨b1, b2, b3, b4, b5⟩ := ih (i + 1) (aMeetO w i A) (by omega) m1 (fun q hq1 hq2 o hcd => by
        by_cases e : q < i
        · rw [m2.2.1 q (by omega)] at hcd
          exact (m3 o).mpr (Or.inl (hp q e (by omega) o hcd))
        · have e2 : q = i := by omega
          subst e2
          rw [m2.2.1 q hc] at hcd
          exact (m3 o).mpr (Or.inr hcd))
      refine ⟨b1, m2.trans b2, b3, fun o z => b4 o ((m3 o).mpr (Or.inl z)), fun Z z1 z2 o hf => b5 Z (fun o hf => ?_) z2 o hf⟩
      rcases (m3 o).mp hf with q | q
      · exact z1 o q
      · have hg := h.1.2.2.2 i hc
        refine z2 _ o hg.1 (z1 _ ?_) q
        unfold aFd
        rw [hg.2.1]
        have := h.1.2.fc2
        omega
    · rw [if_neg hc]
      refine ⟨h, Ext.refl w A, fun p o hp24 hf hcd => ?_, fun _ z => z, fun Z z _ o => z o⟩
      have h1 := (h.1.2.1 p hp24).resolve_left hf
      have h2 := h.2 p hp24 hf
      exact hp (A.1 (w + 9) p) (by omega) h1 o (by rw [h2]; exact hcd)
theorem begin_fd (w : Nat) (A : xQ) : Sr w A (aBegin w A) ∧ ∀ o, o < 24 → ¬ aFd w (aBegin w A) o := by
  have h := aBegin_s w A
  have hn : ∀ o, o < 24 → ¬ aFd w (aBegin w A) o := by
    intro o ho
    obtain ⟨z1, z2⟩ := xit_fill (w + 9) 4294967295 24 0 A
    unfold aFd aBegin
    rw [xsI_ne (Or.inl (by omega)), z2, if_pos ⟨rfl, by omega, by omega⟩]
    exact fun z => z rfl
  exact ⟨⟨h, fun o ho hf => absurd hf (hn o ho)⟩, hn⟩
/-- what is in use: the least set that holds the roots and is closed -/
theorem find_fd (hW : xW0 T R w) (hk : WOk w A0) : Sr w A0 (aFind w A0) ∧ (∀ o, o < 24 → Rt w A0 o → aFd w (aFind w A0) o) ∧ (∀ p o, p < 24 → aFd w (aFind w A0) p → Cd w A0 p o → aFd w (aFind w A0) o) ∧ ∀ Z : Nat → Prop, (∀ o, 24 ≤ o → Z o) → (∀ o, Rt w A0 o → Z o) → (∀ p o, p < 24 → Z p → Cd w A0 p o → Z o) → ∀ o, aFd w (aFind w A0) o → Z o := by
  obtain ⟨a1, a2⟩ := begin_fd w A0
  obtain ⟨b1, b2, b3⟩ := mR_fd hW hk a1
  obtain ⟨c1, c2, c3, c4, c5⟩ := bfs_fd hk 24 0 (aMeetR w (aBegin w A0)) (by omega) b1 (fun q hq => by omega)
  refine ⟨c1, fun o ho hr => c4 o ((b3 o).mpr (Or.inr hr)), c3, fun Z z0 z1 z2 o hf => c5 Z (fun o hf => ?_) z2 o hf⟩
  rcases (b3 o).mp hf with q | q
  · by_cases ho : o < 24
    · exact absurd q (a2 o ho)
    · exact z0 o (by omega)
  · exact z1 o q
end GC
theorem VV.dr {w : Nat} {A B : xQ} {k : Nat} {v : Int64} (h : VV w A k v) (hd : ∀ o, o < 24 → 3 ≤ k → v = lN o → B.1 (w + 3) o = A.1 (w + 3) o) : VV w B k v := by
  refine ⟨h.1, fun q => ?_⟩
  obtain ⟨o, h1, h2, h3⟩ := h.2 q
  exact ⟨o, h1, h2, by rw [hd o h1 q h2]; exact h3⟩
/-- making room leaves all sound -/
theorem COk.room {T : Nat → Option xT} {R : Nat → Nat → Option Nat} {w : Nat} {A : xQ} (hW : xW0 T R w) (h : COk w A) : COk w (aRoom w A) ∧ Ch w 0 A (aRoom w A) ∧ (∀ a j, (a < w + 2 ∨ w + 11 ≤ a ∨ a = w + 4 ∨ a = w + 5 ∨ a = w + 7) → (aRoom w A).1 a j = A.1 a j) ∧ (aRoom w A).2 = A.2 := by
  have h0 := h.1
  obtain ⟨k1, k2, k3⟩ := aRoom_k hW h.2.1
  have ek : ∀ a j, (a < w + 2 ∨ w + 11 ≤ a ∨ a = w + 4 ∨ a = w + 5 ∨ a = w + 7) → (aRoom w A).1 a j = A.1 a j := fun a j q => k2 a j (by omega) (by omega) (by omega) (by omega)
  refine ⟨?_, ⟨ek _ _ (by omega), ek _ _ (by omega), ek _ _ (by omega), by rw [ek 11 3 (by omega)]; omega, by rw [ek w 2 (by omega)]; omega, fun a j _ _ => ek _ _ (by omega)⟩, ek, k1⟩
  by_cases hc : A.1 (w + 2) 4 = 24
  · have e : aRoom w A = aDrop w (aFind w A) := by unfold aRoom; rw [if_pos hc]
    rw [e] at k1 ek ⊢
    clear k2 k3
    obtain ⟨d1, d2, d3⟩ := aDrop_all w (aFind w A)
    obtain ⟨f1, f2, f3, f4⟩ := find_fd hW h.2.1
    have dc := aDrop_c w (aFind w A)
    generalize aFind w A = X at *
    generalize aDrop w X = B at *
    have x3 : ∀ o, X.1 (w + 3) o = A.1 (w + 3) o := fun o => f1.1.1.2 _ _ (by omega) (by omega) (Or.inl (by omega))
    have b3 : ∀ o, o < 24 → aFd w X o → B.1 (w + 3) o = A.1 (w + 3) o := fun o ho hf => by rw [d3, if_neg (fun z => hf z.2), x3]
    have b0 : ∀ o, o < 24 → ¬ aFd w X o → B.1 (w + 3) o = 0 := fun o ho hf => by rw [d3, if_pos ⟨ho, Classical.not_not.mp hf⟩]
    have hrt : ∀ ka na c, (∀ o, Rf A ka na c o → Rt w A o) → VV w A (A.1 ka c) (A.2 na c) → VV w B (A.1 ka c) (A.2 na c) := by
      intro ka na c hr hv
      refine hv.dr (fun o ho hk hl => b3 o ho (f2 o ho (hr o ⟨hk, ?_⟩)))
      rw [hl, oN_lN (by omega)]
    obtain ⟨_, ⟨w1, w2, w3⟩, g2, g3, g4, g5⟩ := h
    refine ⟨h0, ⟨by rw [ek w 2 (by omega)]; exact w1, fun u hu => ?_, fun o ho => ?_⟩, g2.same (fun a j _ _ => ek _ _ (by omega)), ?_, fun u hu i hi => ?_, by rw [ek w 3 (by omega)]; exact g5⟩
    · rw [ek w 2 (by omega)] at hu
      obtain ⟨q1, q2, q3, q4, q5, q6, q7⟩ := w2 u hu
      unfold SOk
      rw [ek _ 2 (by omega), ek _ 3 (by omega), ek _ 4 (by omega)]
      refine ⟨q1, q2, q3, q4, q5, fun q => ?_, fun k hk => ?_⟩
      · show VV w B _ _
        rw [ek _ 0 (by omega), k1]
        exact hrt _ _ _ (fun o ho => ⟨u, hu, Or.inl ⟨q, ho⟩⟩) (q6 q)
      · obtain ⟨p1, p2, p3, p4, p5⟩ := q7 k hk
        unfold FOk
        rw [ek _ 1 (by omega), ek _ 2 (by omega), ek _ 3 (by omega), ek _ 0 (by omega)]
        refine ⟨p1, p2, p3, p4, fun c hc => ?_⟩
        show VV w B _ _
        rw [ek _ c (by omega), k1]
        exact hrt _ _ _ (fun o ho => ⟨u, hu, Or.inr ⟨k, hk, c, hc, ho⟩⟩) (p5 c hc)
    · obtain ⟨p1, p2, p3, p4⟩ := w3 o ho
      by_cases hf : aFd w X o
      · unfold OOk
        rw [b3 o ho hf, ek (w + 4) o (by omega), ek (w + 5) o (by omega)]
        refine ⟨p1, p2, p3, fun hn j hj => ?_⟩
        show VV w B _ _
        rw [ek _ _ (by omega), k1]
        exact VV.dr (p4 hn j hj) (fun q hq hk hl => b3 q hq (f3 o q ho hf ⟨j, hj, hk, by rw [hl, oN_lN (by omega)]⟩))
      · unfold OOk
        rw [b0 o ho hf]
        exact ⟨Or.inl rfl, fun z => by omega, fun z => by omega, fun z => absurd rfl z⟩
    · unfold HOk
      rw [dc, f1.1.2.2.1]
      refine xcnt_congr _ (fun o ho => ?_)
      by_cases hf : aFd w X o
      · have hlt := (f1.1.2.1 o ho).resolve_left hf
        have hkk := (f1.1.2.2.2 _ hlt).2.2
        rw [f1.2 o ho hf] at hkk
        rw [b3 o ho hf, ← x3]
        unfold aFd at hf
        simp [hf, hkk]
      · rw [b0 o ho hf]
        have := Classical.not_not.mp hf
        simp [this]
    · rw [ek w 2 (by omega)] at hu
      rw [ek _ 3 (by omega)] at hi
      rw [ek _ 2 (by omega)]
      exact g4 u hu i hi
  · have e : aRoom w A = A := by unfold aRoom; rw [if_neg hc]
    rw [e]; exact h
