-- load: the call
theorem xsI_2 {Z : xQ} {a k v : Nat} : (xsI Z a k v).2 = Z.2 := rfl
theorem aClear_2 {u : Nat} {Y : xQ} : (aClear u Y).2 = Y.2 := by
  unfold aClear
  rw [xsI_2, (xit_fill (u + 3) 0 24 0 Y).1]
theorem aRead_k {u cs : Nat} {A : xQ} (hu : u = 12 ∨ u = 103) (h1 : A.1 99 1 ≤ 2400) (h2 : ∀ i, i < A.1 99 1 → A.1 100 i < 256) : (∀ a j, (a < u ∨ u + 86 ≤ a) → a ≠ 102 → (aRead u cs A).1 a j = A.1 a j) ∧ ∀ a j, (a < u ∨ u + 86 ≤ a) → (aRead u cs A).2 a j = A.2 a j := by
  have I3 := CI.h1 hu h1 h2
  have e3 : ∀ a j, (a < u ∨ u + 86 ≤ a) → a ≠ 102 → (aH1 u A).1 a j = A.1 a j := fun a j q1 q2 => by
    unfold aH1
    rw [aRb_ne _ _ _ (by omega), aRb_ne _ _ _ (by omega), aRb_ne _ _ _ (by omega)]
    unfold aClear
    rw [xsI_ne (by omega), (xit_fill (u + 3) 0 24 0 _).2, if_neg (by omega), xsI_ne (by omega), xsI_ne (by omega), xsI_ne (by omega)]
  have e32 : (aH1 u A).2 = A.2 := by
    unfold aH1
    rw [aRb_2, aRb_2, aRb_2, aClear_2, xsI_2, xsI_2, xsI_2]
  have e5 : (aH1 u A).1 102 5 = 24 := by
    unfold aH1
    rw [aRb_ne _ _ _ (by omega), aRb_ne _ _ _ (by omega), aRb_ne _ _ _ (by omega)]
    unfold aClear
    rw [xsI_ne (by omega), (xit_fill (u + 3) 0 24 0 _).2, if_neg (by omega), xsI_eq]
  unfold aRead
  generalize aH1 u A = D0 at *
  have I4 : CI u (aH2 cs D0) := I3.h2 hu
  have l4 : 1 ≤ (aH2 cs D0).1 102 5 := by
    unfold aH2
    rw [xsI_ne (by omega), aRb_ne _ _ _ (by omega), e5]; omega
  have e4 : ∀ a j, (a < u ∨ u + 86 ≤ a) → a ≠ 102 → (aH2 cs D0).1 a j = A.1 a j := fun a j q1 q2 => by
    unfold aH2
    rw [xsI_ne (by omega), aRb_ne _ _ _ (by omega)]
    exact e3 a j q1 q2
  have e42 : (aH2 cs D0).2 = A.2 := by
    unfold aH2
    show (aRb cs cs D0).2.2 = _
    rw [aRb_2]; exact e32
  generalize aH2 cs D0 = D at *
  have K7 := KA.h3 I4 hu
  have l7 := K7.l l4
  obtain ⟨d1, d2, d3⟩ := aH3_b (u := u) (A := D) hu
  have e7 : ∀ a j, (a < u ∨ u + 86 ≤ a) → a ≠ 102 → (aH3 u D).1 a j = A.1 a j := fun a j q1 q2 => (K7.1 a j (by omega) q2 (by omega) (by omega)).trans (e4 a j q1 q2)
  have e72 : ∀ a j, (a < u ∨ u + 86 ≤ a) → (aH3 u D).2 a j = A.2 a j := fun a j q1 => (K7.2.1 a j (by omega)).trans (by rw [e42])
  have I7 := K7.ci
  generalize aH3 u D = F at *
  obtain ⟨t1, -⟩ := KA.ths hu (F.1 u 2) 0 F (by omega) I7 l7
  have e8 : ∀ a j, (a < u ∨ u + 86 ≤ a) → a ≠ 102 → (aThs u (F.1 u 2) 0 F).1 a j = A.1 a j := fun a j q1 q2 => (t1.1 a j (by omega) q2 (by omega) (by omega)).trans (e7 a j q1 q2)
  have e82 : ∀ a j, (a < u ∨ u + 86 ≤ a) → (aThs u (F.1 u 2) 0 F).2 a j = A.2 a j := fun a j q1 => (t1.2.1 a j (by omega)).trans (e72 a j q1)
  have I8 := t1.ci
  generalize aThs u (F.1 u 2) 0 F = G at *
  obtain ⟨o1, o2, o3, -⟩ := ros_k (u := u) I8 hu
  obtain ⟨p1, p2, p3, -⟩ := rend_k (u := u) o1 hu
  have t : ∀ a j, a ≠ 102 → (aTst u (aRend (aRos u G))).1 a j = (aRend (aRos u G)).1 a j := fun a j q => by
    unfold aTst
    split
    · exact xsI_ne (by omega)
    · rfl
  have t2 : (aTst u (aRend (aRos u G))).2 = (aRend (aRos u G)).2 := by
    unfold aTst
    split <;> rfl
  exact ⟨fun a j q1 q2 => by rw [t a j q2, p2 a j q2, o2 a j q2 (by omega)]; exact e8 a j q1 q2, fun a j q1 => by rw [t2, p3, o3 a j (by omega)]; exact e82 a j q1⟩
theorem xcnt_below {p : Nat → Bool} {c : Nat} : ∀ n, (∀ i, i < n → p i = decide (i < c)) → xcnt p n = min n c := by
  intro n
  induction n with
  | zero => intro _; show 0 = _; omega
  | succ n ih =>
    intro h
    show xcnt p n + (if p n = true then 1 else 0) = _
    rw [ih (fun i hi => h i (by omega)), h n (by omega)]
    by_cases q : n < c
    · rw [if_pos (decide_eq_true q)]; omega
    · rw [if_neg (by rw [decide_eq_false q]; exact Bool.false_ne_true)]; omega
theorem Got.ok {u v : Nat} {A X B : xQ} (h : Got u v X B) (hu : u = 12 ∨ u = 103) (hI : CI u X) (hP : POk A) (hk : ∀ a j, 1 ≤ a → a ≤ 10 → X.1 a j = A.1 a j) : COk u X ∧ TOk u X := by
  obtain ⟨g1, g2, g3, g4, g5, g6, g7, g8, g9, g10, g11⟩ := h
  obtain ⟨i1, i2, i3, i4, i5, i6, i7⟩ := hI
  refine ⟨⟨hu, ⟨g6, fun t ht => (g9 t ht).1, fun o ho => ?_⟩, hP.same hk, ?_, fun t ht k hk => (g9 t ht).2.2 k (by omega), by omega⟩, fun _ => ⟨g5, g7, fun hs => g8 hs⟩⟩
  · by_cases q : o < X.1 (u + 2) 4
    · exact (g11 o q).1
    · have k0 := (i7 o ho).2 (by omega)
      exact ⟨Or.inl k0, fun q => by omega, fun q => by omega, fun q => absurd k0 q⟩
  · unfold HOk
    rw [xcnt_below (c := X.1 (u + 2) 4) 24 (fun i hi => ?_)]
    · omega
    · have k0 := i7 i hi
      by_cases q : i < X.1 (u + 2) 4
      · rw [decide_eq_true q, decide_eq_false (by have := k0.1 q; omega)]
        rfl
      · rw [decide_eq_false q, decide_eq_true (k0.2 (by omega))]
        rfl
theorem Got.rel {w u v : Nat} {A X B B1 B2 : xQ} (h : Got u v X B1) (hu : u = 12 ∨ u = 103) (hI : CI u X) (hc : COk w A) (hRel : Rel w A B) (hR : RR u X B1) (hn : X.1 102 2 = 4294967294) (hX : ∀ a j, (a < u ∨ u + 86 ≤ a) → a ≠ 102 → X.1 a j = A.1 a j) (hX2 : ∀ a j, (a < u ∨ u + 86 ≤ a) → X.2 a j = A.2 a j) (hK : KL (mRs B) B1) (hC : Cop v (X.1 (u + 2) 4) B1 B2) : Rel u X B2 := by
  have hco := (h.ok hu hI hc.2.2.1 (fun a j q1 q2 => hX a j (by omega) (by omega))).1
  obtain ⟨g1, g2, g3, g4, g5, g6, g7, g8, g9, g10, g11⟩ := h
  obtain ⟨i1, i2, i3, i4, i5, i6, i7⟩ := hI
  obtain ⟨r1, r2, r3, r4, r5, r6, r7⟩ := hR
  obtain ⟨s1, s2, s3, s4, s5, s6⟩ := r6 hn
  obtain ⟨c1, c2, c3, c4, c5, c6, c7, c8, c9, c10⟩ := hC
  obtain ⟨p1, p2, p3, p4, p5⟩ := hRel
  have er : ∀ a j, (a ≠ 189 ∨ (j ≠ 37 ∧ j ≠ 38 ∧ j ≠ 39 ∧ j ≠ 53 ∧ j ≠ 54)) → (mRs B).1 a j = B.1 a j := fun a j q => by
    unfold mRs
    rw [xsI_ne (by omega), xsI_ne (by omega), xsI_ne (by omega), xsI_ne (by omega), xsI_ne (by omega)]
  have b2 : ∀ a j, a ≠ 189 → (a < 199 ∨ 212 < a) → (a < 217 ∨ 228 < a) → B2.1 a j = B.1 a j := fun a j q1 q2 q3 => by rw [c5 a j q1 q2, hK.1 a j q1 q3]; exact er a j (by omega)
  refine ⟨p1.same (fun a j q1 q2 => hX a j (by omega) (by omega)) (fun a j q1 q2 => b2 a j (by omega) (by omega) (by omega)), ⟨?_, i1, ?_, fun i hi => ⟨?_, i2 i hi⟩⟩, ⟨?_, ?_, ?_, ?_, ?_, ?_, ?_, fun q => by omega, fun i q1 q2 => ?_⟩, fun t ht => ?_, fun o ho => ?_⟩
  · rw [c7 35 (by omega) (by omega) (by omega)]; exact r1
  · rw [c7 37 (by omega) (by omega) (by omega), hn]; exact s2
  · rw [c5 214 i (by omega) (by omega)]; exact r2 i hi
  · rw [c7 9 (by omega) (by omega) (by omega)]; exact g2
  · rw [c7 10 (by omega) (by omega) (by omega)]; exact g3
  · rw [c7 11 (by omega) (by omega) (by omega)]; exact g4
  · exact c9
  · rw [c7 12 (by omega) (by omega) (by omega), hK.2.2 12 (by omega) (by omega) (by omega) (by omega) (by omega) (by omega), er _ _ (by omega), hX 11 4 (by omega) (by omega)]; exact p3.2.2.2.2.1
  · rw [c7 13 (by omega) (by omega) (by omega), hK.2.2 13 (by omega) (by omega) (by omega) (by omega) (by omega) (by omega), er _ _ (by omega), hX 11 3 (by omega) (by omega)]; exact p3.2.2.2.2.2.1
  · rw [c10, if_neg (by omega)]
  · rw [c6 213 i (by omega), hK.2.1 213 i (by omega), hX2 98 i (by omega)]
    rw [hX 11 3 (by omega) (by omega)] at q2
    exact p3.2.2.2.2.2.2.2.2 i q1 q2
  · obtain ⟨f1, f2, f3⟩ := g9 t ht
    exact f2.away (by omega) f1 (fun _ _ _ _ => rfl) (fun _ _ _ _ => rfl) (fun a q1 q2 => by rw [vB_1 (by omega)]; exact c1 a t q1 q2 (by omega)) (fun a j q1 q2 q3 q4 => by rw [vB_1 (by omega)]; exact c2 a j q1 q2 (by omega)) (fun j q => by rw [vB_1 (by omega)]; exact (c3 j (by omega)).1) (fun j q => by rw [vB_2]; exact (c3 j (by omega)).2)
  · obtain ⟨k1, k2, k3, k4⟩ := c4 o ho
    obtain ⟨z1, z2⟩ := r5 o ho
    refine ⟨?_, fun q => ?_, by rw [k2]; exact z1, by rw [k4]; exact z2⟩
    · rw [k1]
      by_cases q : o < X.1 (u + 2) 4
      · rw [if_pos q, if_neg (by have := (i7 o ho).1 q; omega)]
      · rw [if_neg q, if_pos ((i7 o ho).2 (by omega))]
    · have qo : o < X.1 (u + 2) 4 := Nat.lt_of_not_le (fun z => q ((i7 o ho).2 z))
      obtain ⟨f1, f2, f3, f4⟩ := g11 o qo
      have hz := f1.sz q
      refine ⟨by rw [k2]; exact s5 o qo, fun q4 => by rw [k3, k4]; exact f2 q4, fun i hi => ?_⟩
      rw [(c3 (160 + 3 * o + i) (by omega)).1, (c3 (160 + 3 * o + i) (by omega)).2]
      exact f4 i hi
/-- a load that failed has changed where alone -/
theorem Rel.lost {w u : Nat} {A X B B1 : xQ} {x : Nat} (hw : w = 12 ∨ w = 103) (hu : u = 115 - w) (hI : CI u X) (hc : COk w A) (hRel : Rel w A B) (hR : RR u X B1) (hn : ¬ X.1 102 2 = 4294967294) (hX : ∀ a j, (a < u ∨ u + 86 ≤ a) → a ≠ 102 → X.1 a j = A.1 a j) (hX2 : ∀ a j, (a < u ∨ u + 86 ≤ a) → X.2 a j = A.2 a j) (hK : KL (mRs B) B1) (h9 : ∀ j, j = 9 ∨ j = 10 ∨ j = 11 → B1.1 189 j = (mRs B).1 189 j) : Rel w X (xsI B1 189 14 x) := by
  have hc3 := hc.cnt
  have er : ∀ a j, (a ≠ 189 ∨ (j ≠ 37 ∧ j ≠ 38 ∧ j ≠ 39 ∧ j ≠ 53 ∧ j ≠ 54)) → (mRs B).1 a j = B.1 a j := fun a j q => by
    unfold mRs
    rw [xsI_ne (by omega), xsI_ne (by omega), xsI_ne (by omega), xsI_ne (by omega), xsI_ne (by omega)]
  have b2 : ∀ a j, a ≠ 189 → (a < 217 ∨ 228 < a) → (xsI B1 189 14 x).1 a j = B.1 a j := fun a j q1 q3 => by rw [xsI_ne (by omega), hK.1 a j q1 q3]; exact er a j (by omega)
  have b22 : ∀ a j, a ≠ 228 → (xsI B1 189 14 x).2 a j = B.2 a j := fun a j q => (hK.2.1 a j q).trans rfl
  have b9 : ∀ j, 9 ≤ j → j ≤ 16 → j ≠ 14 → (xsI B1 189 14 x).1 189 j = B.1 189 j := fun j q1 q2 q3 => by
    rw [xsI_ne (by omega)]
    by_cases e : j = 9 ∨ j = 10 ∨ j = 11
    · rw [h9 j e]; exact er _ _ (by omega)
    · rw [hK.2.2 j (by omega) (by omega) (by omega) (by omega) (by omega) (by omega)]; exact er _ _ (by omega)
  obtain ⟨i1, i2, i3, i4, i5, i6, i7⟩ := hI
  obtain ⟨r1, r2, r3, r4, r5, r6, r7⟩ := hR
  obtain ⟨s1, s2⟩ := r7 hn
  obtain ⟨p1, p2, p3, p4, p5⟩ := hRel
  have hXw : ∀ a j, w ≤ a → a ≤ w + 85 → X.1 a j = A.1 a j := fun a j q1 q2 => hX a j (by omega) (by omega)
  have hXw2 : ∀ a j, w ≤ a → a ≤ w + 85 → X.2 a j = A.2 a j := fun a j q1 q2 => hX2 a j (by omega)
  refine ⟨p1.same (fun a j q1 q2 => hX a j (by omega) (by omega)) (fun a j q1 q2 => b2 a j (by omega) (by omega)), ⟨?_, i1, ?_, fun i hi => ⟨?_, i2 i hi⟩⟩, p3.same (fun j => hXw _ _ (by omega) (by omega)) (hXw _ _ (by omega) (by omega)) (fun j => hX _ _ (by omega) (by omega)) (fun j => hX2 _ _ (by omega)) b9 (fun j => b22 _ _ (by omega)), fun t ht => ?_, fun o ho => ?_⟩
  · rw [xsI_ne (by omega)]; exact r1
  · rw [xsI_ne (by omega)]; exact s2
  · rw [xsI_ne (by omega)]; exact r2 i hi
  · rw [hXw w 2 (by omega) (by omega)] at ht
    exact (p4 t ht).away (by omega) (hc.st ht) (fun a j _ _ => hXw a j (by omega) (by omega)) (fun a j _ _ => hXw2 a j (by omega) (by omega)) (fun a _ _ => b2 a _ (by omega) (by omega)) (fun a j _ _ _ _ => b2 a j (by omega) (by omega)) (fun j _ => b2 _ j (by omega) (by omega)) (fun j _ => b22 _ j (by omega))
  · exact (p5 o ho).away (hc.2.1.2.2 o ho) (fun a _ _ => hXw a _ (by omega) (by omega)) (fun i _ => hXw _ _ (by omega) (by omega)) (fun i _ => hXw2 _ _ (by omega) (by omega)) (fun a _ _ _ => b2 a _ (by omega) (by omega)) (fun i _ => b2 _ _ (by omega) (by omega)) (fun i _ => b22 _ _ (by omega))
/-- the reference's new rows hold words -/
def nrm (B : xQ) : xQ := (fun a j => if a = 225 ∨ a = 227 then B.1 a j % 2 ^ 32 else B.1 a j, B.2)
theorem nrm_x {z : Nat} {T : Nat → Option xT} {R : Nat → Nat → Option Nat} {B : xQ} : xm z T R (nrm B) = xm z T R B := by
  unfold xm nrm
  congr 3
  funext a k
  dsimp only
  by_cases h : a = 225 ∨ a = 227
  · rw [if_pos h, nI_mod]
  · rw [if_neg h]
theorem nrm_ne {B : xQ} {a j : Nat} (h : a ≠ 225 ∧ a ≠ 227) : (nrm B).1 a j = B.1 a j := if_neg (by omega)
/-- the reference's load, whole -/
theorem m168 {z : Nat} {T : Nat → Option xT} {R : Nat → Nat → Option Nat} {A B : xQ} {w u w0 cs : Nat} (hL : xLay T R w0) (hw : w = 12 ∨ w = 103) (hu : u = 115 - w) (hc : COk w A) (hRel : Rel w A B) (hb : ∀ o, o < 24 → B.1 225 o < 4294967296 ∧ B.1 227 o < 4294967296) (hcs : cF (A.1 3) (A.1 4) (A.1 5) (A.1 6) 6 0 0 % 256 = cs) : (aRead u cs A).1 102 2 < 2 ^ 32 ∧ ((aRead u cs A).1 102 3 = 1 ∨ (aRead u cs A).1 102 3 = 0) ∧ ((aRead u cs A).1 102 3 = 1 → ¬ (aRead u cs A).1 102 2 = 4294967294) ∧ ((aRead u cs A).1 102 2 = 4294967294 → COk u (aRead u cs A) ∧ TOk u (aRead u cs A) ∧ ∃ B2, xF 168 [.ref 189] (xm z T R B) (.inr (some (.int (nI ((aRead u cs A).1 u 2)))), xm z T R B2) ∧ B2.1 189 14 = 0 ∧ Rel u (aRead u cs A) B2) ∧ (¬ (aRead u cs A).1 102 2 = 4294967294 → ∃ B2, xF 168 [.ref 189] (xm z T R B) (.inr (some (.int (nI 0))), xm z T R B2) ∧ B2.1 189 14 = (if (aRead u cs A).1 102 3 = 1 then 2 else 1) ∧ Rel w (aRead u cs A) B2) := by
  have hu2 : u = 12 ∨ u = 103 := by omega
  obtain ⟨p1, p2, p3, p4, p5⟩ := id hRel
  obtain ⟨q1, q2, q3, q4⟩ := p2
  have h2 : ∀ i, i < A.1 99 1 → A.1 100 i < 256 := fun i hi => (q4 i hi).2
  obtain ⟨k1, k2⟩ := aRead_k (cs := cs) hu2 q2 h2
  have er : ∀ a j, (a ≠ 189 ∨ (j ≠ 37 ∧ j ≠ 38 ∧ j ≠ 39 ∧ j ≠ 53 ∧ j ≠ 54)) → (mRs B).1 a j = B.1 a j := fun a j q => by
    unfold mRs
    rw [xsI_ne (by omega), xsI_ne (by omega), xsI_ne (by omega), xsI_ne (by omega), xsI_ne (by omega)]
  have m38 : (mRs B).1 189 38 = 0 := by
    unfold mRs
    rw [xsI_ne (by omega), xsI_ne (by omega), xsI_ne (by omega), xsI_ne (by omega), xsI_eq]
  have hR0 : RR u (aClear u (xsI (xsI (xsI A 102 2 4294967294) 102 4 0) 102 5 24)) (mRs B) := by
    obtain ⟨z1, z2⟩ := xit_fill (u + 3) 0 24 0 (xsI (xsI (xsI A 102 2 4294967294) 102 4 0) 102 5 24)
    have e : ∀ a j, a ≠ u + 3 → (a ≠ u + 2 ∨ j ≠ 4) → (aClear u (xsI (xsI (xsI A 102 2 4294967294) 102 4 0) 102 5 24)).1 a j = (xsI (xsI (xsI A 102 2 4294967294) 102 4 0) 102 5 24).1 a j := fun a j q1 q2 => by
      unfold aClear
      rw [xsI_ne q2, z2, if_neg (by omega)]
    have e2 : (aClear u (xsI (xsI (xsI A 102 2 4294967294) 102 4 0) 102 5 24)).1 (u + 2) 4 = 0 := xsI_eq
    have ea : ∀ a j, a ≠ 102 → a ≠ u + 3 → (a ≠ u + 2 ∨ j ≠ 4) → (aClear u (xsI (xsI (xsI A 102 2 4294967294) 102 4 0) 102 5 24)).1 a j = A.1 a j := fun a j q q1 q2 => by rw [e a j q1 q2, xsI_ne (by omega), xsI_ne (by omega), xsI_ne (by omega)]
    have n2 : (aClear u (xsI (xsI (xsI A 102 2 4294967294) 102 4 0) 102 5 24)).1 102 2 = 4294967294 := by rw [e 102 2 (by omega) (by omega), xsI_ne (by omega), xsI_ne (by omega), xsI_eq]
    have n4 : (aClear u (xsI (xsI (xsI A 102 2 4294967294) 102 4 0) 102 5 24)).1 102 4 = 0 := by rw [e 102 4 (by omega) (by omega), xsI_ne (by omega), xsI_eq]
    have n5 : (aClear u (xsI (xsI (xsI A 102 2 4294967294) 102 4 0) 102 5 24)).1 102 5 = 24 := by rw [e 102 5 (by omega) (by omega), xsI_eq]
    have m39 : (mRs B).1 189 39 = 0 := by
      unfold mRs
      rw [xsI_ne (by omega), xsI_ne (by omega), xsI_eq]
    have m37 : (mRs B).1 189 37 = 4294967294 := by
      unfold mRs
      rw [xsI_ne (by omega), xsI_ne (by omega), xsI_ne (by omega), xsI_eq]
    have m53 : (mRs B).1 189 53 = 0 := by
      unfold mRs
      rw [xsI_ne (by omega), xsI_eq]
    have m54 : (mRs B).1 189 54 = 0 := xsI_eq
    refine ⟨by rw [ea 99 1 (by omega) (by omega) (by omega), er _ _ (by omega)]; exact q1, fun i hi => ?_, by omega, by omega, fun o ho => by rw [er _ _ (by omega), er _ _ (by omega)]; exact hb o ho, fun _ => ⟨m38, m37, by omega, by omega, fun o ho => by omega, Or.inl ⟨m54, n5⟩⟩, fun q => absurd n2 q⟩
    rw [ea 99 1 (by omega) (by omega) (by omega)] at hi
    rw [ea 100 i (by omega) (by omega) (by omega), er _ _ (by omega)]
    exact (q4 i hi).1
  have ef : ∀ a, 190 ≤ a → a ≤ 213 → (mRs B).1 a = B.1 a := fun a q1 q2 => funext fun j => er a j (by omega)
  have hcsB : cF ((mRs B).1 191) ((mRs B).1 193) ((mRs B).1 194) ((mRs B).1 195) 6 0 0 % 256 = cs := by
    rw [ef _ (by omega) (by omega), ef _ (by omega) (by omega), ef _ (by omega) (by omega), ef _ (by omega) (by omega), ← hcs]
    congr 1
    refine cF_congr 6 0 0 (fun g q1 q2 => ?_)
    obtain ⟨p1, p2, p3, p4, p5⟩ := p1 g (by omega)
    refine ⟨p2, fun j hj => ?_⟩
    rw [Nat.mul_comm 30 g]
    have := p4 j hj
    rw [Nat.mul_comm 30 g] at this
    exact this
  obtain ⟨v, B1, f1, f2, f3, f4, f5, f6, f7, f8⟩ := m167 (z := z) hL hu2 q2 h2 hR0 m38 hcsB (fun f hf => by rw [ef _ (by omega) (by omega), (p1 f hf).2.1]; exact (hc.2.2.1 f hf).2.1)
  generalize aRead u cs A = X at *
  have i4 := f2.2.2.2.1
  refine ⟨by omega, by omega, fun q q2 => ?_, fun q => ?_, fun q => ?_⟩
  · have := (f3.2.2.2.2.2.1 q2).1
    have := f6.mpr q
    omega
  · have hg := f4 q
    obtain ⟨o1, o2⟩ := hg.ok (A := A) hu2 f2 hc.2.2.1 (fun a j q1 q2 => k1 a j (by omega) (by omega))
    refine ⟨o1, o2, ?_⟩
    have i5 := f2.2.2.2.2.1
    have i6 := f2.2.2.2.2.2.1
    have hv := hg.1
    have hv3 := hg.2.2.2.2.2.1
    obtain ⟨B2, j1, j2⟩ := m168a (z := z) (v := v) (c := X.1 (u + 2) 4) hL f1 (f3.2.2.2.2.2.1 q).1 (by omega) (by omega) hg.2.2.2.2.2.2.2.2.2.1
    have hr := hg.rel hu2 f2 hc hRel f3 q k1 k2 f5 j2
    refine ⟨B2, ?_, j2.2.2.2.2.2.2.2.1, hr⟩
    rw [← hv]
    exact j1
  · have s1 := (f3.2.2.2.2.2.2 q).1
    have s2 := f3.2.2.1
    refine ⟨_, m168b hL f1 s1 s2, ?_, Rel.lost hw hu f2 hc hRel f3 q k1 k2 f5 (fun j hj => f8 q j hj)⟩
    rw [xsI_eq]
    by_cases e : X.1 102 3 = 1
    · rw [if_pos e]; exact f6.mpr e
    · rw [if_neg e]
      have : ¬ B1.1 189 38 = 2 := fun z => e (f6.mp z)
      omega
theorem pub_load : Pub 10 168 (mpO [(0, 1), (3, 2)]) [] := by
  intro z T R w n A hn hI
  obtain ⟨hL, hr, hc, hT, hR, h3, h4⟩ := hI
  have hw := hL.1
  have hgu : ∃ u, u = 115 - w := ⟨_, rfl⟩
  obtain ⟨u, hu⟩ := hgu
  have hu2 : u = 12 ∨ u = 103 := by omega
  have hgc : ∃ cs, cF (A.1 3) (A.1 4) (A.1 5) (A.1 6) 6 0 0 % 256 = cs := ⟨_, rfl⟩
  obtain ⟨cs, hcs⟩ := hgc
  obtain ⟨q1, q2, q3, q4⟩ := hR.2.1
  have h2 : ∀ i, i < A.1 99 1 → A.1 100 i < 256 := fun i hi => (q4 i hi).2
  obtain ⟨k1, k2⟩ := aRead_k (cs := cs) hu2 q2 h2
  have e14 : ∀ (X Y : xQ), (mrg X Y).1 189 14 = Y.1 189 14 := fun X Y => (mrg_hi ⟨by omega, by omega⟩).1
  -- the reference, on what the class leaves
  have hB : ∀ (X : xQ) (o : Int64), Rel w A (nrm (xsJ (mrg X A) 229 0 o)) ∧ ∀ p, p < 24 → (nrm (xsJ (mrg X A) 229 0 o)).1 225 p < 4294967296 ∧ (nrm (xsJ (mrg X A) 229 0 o)).1 227 p < 4294967296 := fun X o => by
    refine ⟨hR.ext hc (fun _ _ _ => rfl) (fun _ _ _ => rfl) (fun a j q => by rw [nrm_ne (by unfold relB at q; omega)]; exact (mrg_hi (by unfold relB at q; omega)).1) (fun a j q => by show (xsJ (mrg X A) 229 0 o).2 a j = _; rw [xsJ_ne (Or.inl (by omega))]; exact (mrg_hi (by omega)).2), fun p hp => ⟨?_, ?_⟩⟩
    · show (if 225 = 225 ∨ 225 = 227 then (xsJ (mrg X A) 229 0 o).1 225 p % 2 ^ 32 else (xsJ (mrg X A) 229 0 o).1 225 p) < _
      rw [if_pos (by omega)]
      exact Nat.mod_lt _ (by decide)
    · show (if 227 = 225 ∨ 227 = 227 then (xsJ (mrg X A) 229 0 o).1 227 p % 2 ^ 32 else (xsJ (mrg X A) 229 0 o).1 227 p) < _
      rw [if_pos (by omega)]
      exact Nat.mod_lt _ (by decide)
  have hlo : ∀ (X : xQ) (o : Int64) a j, a ≤ 188 → (nrm (xsJ (mrg X A) 229 0 o)).1 a j = X.1 a j ∧ (nrm (xsJ (mrg X A) 229 0 o)).2 a j = X.2 a j := fun X o a j q => by
    obtain ⟨x1, x2⟩ := xsJ_lo (A := mrg X A) (o := o) a j q
    obtain ⟨y1, y2⟩ := mrg_lo (B := X) (C := A) (a := a) (k := j) (Or.inl q)
    refine ⟨?_, ?_⟩
    · rw [nrm_ne (by omega), x1]; exact y1
    · show (xsJ (mrg X A) 229 0 o).2 a j = _
      rw [x2]; exact y2
  have h229 : ∀ (X : xQ) (o : Int64), (nrm (xsJ (mrg X A) 229 0 o)).2 229 0 = o := fun X o => by
    show (xsJ (mrg X A) 229 0 o).2 229 0 = o
    exact xsJ_eq
  have b3 : (aRead u cs A).1 11 3 = A.1 11 3 := k1 11 3 (by omega) (by omega)
  have b4 : (aRead u cs A).1 11 4 = A.1 11 4 := k1 11 4 (by omega) (by omega)
  have d3 : (aRead u cs A).1 11 3 ≤ 300 * (n + 1) := by omega
  have d4 : (aRead u cs A).1 11 4 ≤ 300 * (n + 1) := by omega
  have hL2 : xLay T (x2 (x2 (x2 R 102 1 (some u)) 0 5 (some w)) 11 1 (some u)) u := (hL.rw).sw hu
  have hr2 : ∀ b, x2 (x2 (x2 R 102 1 (some u)) 0 5 (some w)) 11 1 (some u) 102 1 = some b → b = 12 ∨ b = 103 := fun b q => by
    rw [x2o (by omega), x2o (by omega), x2e] at q
    cases q
    exact hu2
  have hL1 : xLay T (x2 R 102 1 (some u)) w := hL.rw
  have hr1 : ∀ b, x2 R 102 1 (some u) 102 1 = some b → b = 12 ∨ b = 103 := fun b q => by
    rw [x2e] at q
    cases q
    exact hu2
  have oCw : COk w (aRead u cs A) := hc.oth (fun a j q => k1 a j (by omega) (by omega)) (fun a j q => k2 a j (by omega))
  have oTw : TOk w (aRead u cs A) := hT.oth hc.cnt hc.2.2.2.2.2 (fun a j q => k1 a j (by omega) (by omega))
  obtain ⟨m1, m2, m3, m4, -⟩ := m168 (z := z) hL hw hu hc (hB A 0).1 (hB A 0).2 hcs
  have hc10 := c10 (z := z) hL hu q2 h2 (fun f hf => (hc.2.2.1 f hf).2.1) hcs m1
  by_cases hNF : (aRead u cs A).1 102 2 = 4294967294
  · have e3 : (aRead u cs A).1 102 3 = 0 := m2.resolve_left (fun z => m3 z hNF)
    have hcl := hc10.2.2 e3 hNF
    have hcl2 := keepC hL hr rfl gC0 hcl
    obtain ⟨oC, oT, -⟩ := m4 hNF
    refine ⟨.inr (some (.int (nI ((aRead u cs A).1 u 2)))), z, x2 (x2 (x2 R 102 1 (some u)) 0 5 (some w)) 11 1 (some u), u, mrg (aRead u cs A) A, hcl2, Or.inr ⟨_, rfl, ⟨_, Or.inl rfl⟩, rfl⟩, fun o => ?_⟩
    obtain ⟨-, -, -, n4, -⟩ := m168 (z := z) hL2 hw hu hc (hB (aRead u cs A) o).1 (hB (aRead u cs A) o).2 hcs
    obtain ⟨-, -, B2, j1, j2, j3⟩ := n4 hNF
    obtain ⟨B3, l1, l2, l3⟩ := keepM (Q := fun B2 => B2.1 189 14 = 0 ∧ Rel u (aRead u cs A) B2) hL2 rfl gM0 ⟨B2, j1, j2, j3⟩
    rw [nrm_x] at l1
    refine ⟨_, _, l1, ?_, fun e he => (by cases he), fun v he => ?_, Inv.close hL2 hr2 oC oT l3 d3 d4 (fun a j q => hlo (aRead u cs A) o a j q)⟩
    · rw [(mrg_lo (Or.inr rfl)).2]; exact h229 (aRead u cs A) o
    · cases he
      rw [e14, l2]
      exact ⟨rfl, rfl⟩
  · skip
    rcases m2 with e | e
    · have hcl := hc10.1 e
      have hcl2 := keepC hL hr rfl gC0 hcl
      refine ⟨.inl 3, z + 1, x2 R 102 1 (some u), w, mrg (aRead u cs A) A, hcl2, Or.inl ⟨3, rfl, by decide, rfl⟩, fun o => ?_⟩
      obtain ⟨-, -, -, -, n5⟩ := m168 (z := z + 1) hL1 hw hu hc (hB (aRead u cs A) o).1 (hB (aRead u cs A) o).2 hcs
      obtain ⟨B2, j1, j2, j3⟩ := n5 hNF
      rw [if_pos e] at j2
      obtain ⟨B3, l1, l2, l3⟩ := keepM (Q := fun B2 => B2.1 189 14 = 2 ∧ Rel w (aRead u cs A) B2) hL1 rfl gM0 ⟨B2, j1, j2, j3⟩
      rw [nrm_x] at l1
      refine ⟨_, _, l1, ?_, fun e he => ?_, fun v he => (by cases he), Inv.close hL1 hr1 oCw oTw l3 d3 d4 (fun a j q => hlo (aRead u cs A) o a j q)⟩
      · rw [(mrg_lo (Or.inr rfl)).2]; exact h229 (aRead u cs A) o
      · cases he
        rw [e14, l2]
        rfl
    · have hcl := hc10.2.1 e hNF
      have hcl2 := keepC hL hr rfl gC0 hcl
      refine ⟨.inl 0, z + 1, x2 R 102 1 (some u), w, mrg (aRead u cs A) A, hcl2, Or.inl ⟨0, rfl, by decide, rfl⟩, fun o => ?_⟩
      obtain ⟨-, -, -, -, n5⟩ := m168 (z := z + 1) hL1 hw hu hc (hB (aRead u cs A) o).1 (hB (aRead u cs A) o).2 hcs
      obtain ⟨B2, j1, j2, j3⟩ := n5 hNF
      rw [if_neg (by rw [e]; decide)] at j2
      obtain ⟨B3, l1, l2, l3⟩ := keepM (Q := fun B2 => B2.1 189 14 = 1 ∧ Rel w (aRead u cs A) B2) hL1 rfl gM0 ⟨B2, j1, j2, j3⟩
      rw [nrm_x] at l1
      refine ⟨_, _, l1, ?_, fun e he => ?_, fun v he => (by cases he), Inv.close hL1 hr1 oCw oTw l3 d3 d4 (fun a j q => hlo (aRead u cs A) o a j q)⟩
      · rw [(mrg_lo (Or.inr rfl)).2]; exact h229 (aRead u cs A) o
      · cases he
        rw [e14, l2]
        rfl
