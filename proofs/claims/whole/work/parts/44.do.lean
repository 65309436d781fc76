-- A STEP
def aDo (w : Nat) (A : xQ) (s f op a b : Nat) : Nat × xQ := match op with
  | 14 => (0, xsI A f 2 b)
  | 15 => aBranch A f b
  | 16 => aGoOn f (aOnObj w A f 16 a b)
  | 17 => aGoOn f (aOnObj w A f 17 a b)
  | 18 => aGoOn f (aOnObj w A f 18 a b)
  | 19 => aGoOn f (aOnObj w A f 19 a b)
  | 20 => aGoOn f (aOnObj w A f 20 a b)
  | 21 => aEnter A s f a 0
  | 22 => aApply w A s f
  | 23 => aLeave A s f
  | n => aGoOn f (aInLine w A f n a b)
def aPerf (w : Nat) (A : xQ) (s f i : Nat) : Nat × xQ := if A.1 f 3 < aNeed A (A.1 4 i) (A.1 5 i) (A.1 6 i) then (6, A) else aDo w A s f (A.1 4 i) (A.1 5 i) (A.1 6 i)
theorem oN_and15 (v : Int64) : oN (v &&& 15) < 16 := by
  have e : oN (v &&& 15) = (BitVec.setWidth 32 (v.toBitVec &&& 15#64)).toNat := by
    unfold oN
    show (v &&& 15).toInt32.toBitVec.toNat = _
    rw [Int64.toBitVec_toInt32, Int64.toBitVec_and, BitVec.signExtend_eq_setWidth_of_le _ (by omega)]
    rfl
  rw [e, BitVec.toNat_setWidth, BitVec.toNat_and]
  have h1 : v.toBitVec.toNat &&& (15#64).toNat ≤ (15#64).toNat := Nat.and_le_right
  have h2 : (15#64).toNat = 15 := rfl
  omega
section EL
variable {w f : Nat} {A : xQ}
theorem aPush_lt (A : xQ) (f k : Nat) (v : Int64) : (aPush A f k v).1 < 32 := by have := aPush_le A f k v; omega
theorem aTest_lt (k q : Nat) : aTest k q < 32 := by unfold aTest; split <;> (try split) <;> omega
theorem aInLine_lt (w : Nat) (A : xQ) (f op a b : Nat) : (aInLine w A f op a b).1 < 32 := by
  unfold aInLine
  split
  all_goals first
    | exact aPush_lt _ _ _ _
    | exact Nat.zero_lt_succ _
    | (unfold aCompute; split <;> (try split) <;> (try split) <;> first | exact aPush_lt _ _ _ _ | (dsimp only; omega))
    | (unfold aCompare aAnswer; split <;> first | exact aPush_lt _ _ _ _ | (dsimp only; omega))
    | (unfold aThrow; split <;> first | (have := oN_and15 (A.2 (f + 3) (4 + A.1 f 3)); show _ < 32; omega) | (dsimp only; omega))
    | (unfold aSay; split <;> (dsimp only; omega))
    | (unfold aFork; split <;> (try split) <;> first | exact aPush_lt _ _ _ _ | (dsimp only; omega))
theorem aOnObj_lt (w : Nat) (A : xQ) (f op a b : Nat) : (aOnObj w A f op a b).1 < 32 := by
  unfold aOnObj
  split
  all_goals first
    | (unfold aRecord; split <;> (try split) <;> first | exact aPush_lt _ _ _ _ | (dsimp only; omega))
    | (unfold aClosure; split <;> (try split) <;> first | exact aPush_lt _ _ _ _ | (dsimp only; omega))
    | (unfold aGet; split <;> first | exact aTest_lt _ _ | (dsimp only; omega))
    | (unfold aPut; split <;> first | exact aTest_lt _ _ | (dsimp only; omega))
    | (unfold aHeld; split <;> (try split) <;> first | exact aPush_lt _ _ _ _ | (dsimp only; omega))
theorem aGoOn_1 (f : Nat) (r : Nat × xQ) : (aGoOn f r).1 = r.1 := by unfold aGoOn; split <;> rfl
theorem aDo_lt (w : Nat) (A : xQ) (s f op a b : Nat) : (aDo w A s f op a b).1 < 32 := by
  unfold aDo
  split
  all_goals first
    | (rw [aGoOn_1]; first | exact aOnObj_lt _ _ _ _ _ _ | exact aInLine_lt _ _ _ _ _ _)
    | (dsimp only; omega)
    | (unfold aBranch; split <;> (dsimp only; omega))
    | (have := aEnter_le A s f a 0; omega)
    | (unfold aApply; split <;> (try split) <;> first | exact aTest_lt _ _ | (dsimp only; omega) | (have := aEnter_le A s f (A.1 (w + 4) (oN (A.2 (f + 3) (4 + A.1 f 3)))) 1; omega))
    | (unfold aLeave aBack; split <;> first | (dsimp only; omega) | (rw [aGoOn_1]; exact aPush_lt _ _ _ _))
end EL
/-- what an instruction does before the place goes on -/
def aPl (w : Nat) (A : xQ) (f op a b : Nat) : Nat × xQ := match op with
  | 16 => aOnObj w A f 16 a b
  | 17 => aOnObj w A f 17 a b
  | 18 => aOnObj w A f 18 a b
  | 19 => aOnObj w A f 19 a b
  | 20 => aOnObj w A f 20 a b
  | n => aInLine w A f n a b
theorem COk.opf {w t k f : Nat} {A : xQ} {r : Nat × xQ} (h : COk w A) (ht : t < A.1 w 2) (hk : k + 1 = A.1 (w + 11 + 25 * t) 3) (hf : f = w + 11 + 25 * t + 5 + 4 * k) (ho : OpF w f A r) : COk w r.2 ∧ Ch w 0 A r.2 ∧ r.2.1 (w + 11 + 25 * t) 3 = A.1 (w + 11 + 25 * t) 3 := ⟨h.frame ht (by omega) hf ho.1 ho.2 (fun z => by omega), ho.1.ch h.1 (by omega), ho.1.1 _ _ (by have := (h.st ht).2.1; omega) (by have := (h.st ht).2.1; omega)⟩
theorem Ch.le {w m n : Nat} {A B : xQ} (h : Ch w m A B) (hmn : m ≤ n) : Ch w n A B := ⟨h.1, h.2.1, h.2.2.1, by have := h.2.2.2.1; omega, h.2.2.2.2.1, h.2.2.2.2.2⟩
theorem COk.goOn {w t k f n : Nat} {A : xQ} {r : Nat × xQ} (h0 : w = 12 ∨ w = 103) (ht : t < A.1 w 2) (hk : k + 1 = A.1 (w + 11 + 25 * t) 3) (hf : f = w + 11 + 25 * t + 5 + 4 * k) (h30 : A.1 f 2 ≤ 30) (g : COk w r.2 ∧ Ch w n A r.2 ∧ r.2.1 f 2 = A.1 f 2 ∧ r.2.1 (w + 11 + 25 * t) 3 = A.1 (w + 11 + 25 * t) 3) : COk w (aGoOn f r).2 ∧ Ch w n A (aGoOn f r).2 := by
  obtain ⟨g1, g2, g3, g4⟩ := g
  unfold aGoOn
  split
  · have htB : t < r.2.1 w 2 := by have := g2.2.2.2.2.1; omega
    have hF := g1.fr (k := k) htB (by omega)
    rw [← hf] at hF
    have ag : AgF f r.2 (xsI r.2 f 2 (r.2.1 f 2 + 1)) := (AgF.refl f r.2).i
    exact ⟨g1.frame htB (by omega) hf ag (hF.place (by omega) (by omega)) (fun z => by omega), (g2.trans (ag.ch h0 (by omega))).le (by omega)⟩
  · exact ⟨g1, g2⟩
theorem aPop_2 (A : xQ) (f n : Nat) : (aPop A f n).1 f 2 = A.1 f 2 := xsI_ne (Or.inr (by omega))
theorem aCell_2 (A : xQ) (f c k : Nat) (v : Int64) : (xsJ (xsI A (f + 2) c k) (f + 3) c v).1 f 2 = A.1 f 2 := (cell_r A f c k v).1 2
/-- every instruction leaves all sound -/
theorem COk.do {T : Nat → Option xT} {R : Nat → Nat → Option Nat} {w t s f op a b : Nat} {A : xQ} (hW : xW0 T R w) (h : COk w A) (ht : t < A.1 w 2) (hs : s = w + 11 + 25 * t) (hst : A.1 s 2 = 0) (hfs : f + 4 = s + 5 + 4 * A.1 s 3) (hp : A.1 f 2 ≤ 29) (hI : IOk op a b) (hsz : aNeed A op a b ≤ A.1 f 3) : COk w (aDo w A s f op a b).2 ∧ Ch w 1 A (aDo w A s f op a b).2 := by
  have h0 := h.1
  have hS := h.st ht
  rw [← hs] at hS
  obtain ⟨q1, q2, q3, q4, q5, q6, q7⟩ := hS
  have hd1 := q3 hst
  obtain ⟨k, hk⟩ : ∃ k, k + 1 = A.1 (w + 11 + 25 * t) 3 := ⟨A.1 s 3 - 1, by rw [← hs]; omega⟩
  have hf : f = w + 11 + 25 * t + 5 + 4 * k := by rw [hs] at hfs; omega
  have hF := h.fr (k := k) ht (by omega)
  rw [← hf] at hF
  have hw3 : w + 3 < f := by omega
  have hO := h.2.1.2.2
  have hc3 := h.cnt
  obtain ⟨hop0, i1, i2, i3, i4, i5, i6⟩ := hI
  have fin : ∀ (r : Nat × xQ), OpF w f A r → r.2.1 f 2 = A.1 f 2 → COk w (aGoOn f r).2 ∧ Ch w 1 A (aGoOn f r).2 := by
    intro r ho h2
    obtain ⟨g1, g2, g3⟩ := h.opf ht hk hf ho
    exact COk.goOn h0 ht hk hf (by omega) ⟨g1, g2.le (by omega), h2, g3⟩
  have fin2 : ∀ (r : Nat × xQ), (COk w r.2 ∧ Ch w 0 A r.2 ∧ r.2.1 f 2 = A.1 f 2 ∧ r.2.1 (w + 11 + 25 * t) 3 = A.1 (w + 11 + 25 * t) 3) → COk w (aGoOn f r).2 ∧ Ch w 1 A (aGoOn f r).2 := by
    intro r ⟨g1, g2, g3, g4⟩
    exact COk.goOn h0 ht hk hf (by omega) ⟨g1, g2.le (by omega), g3, g4⟩
  have fs : ∀ (B : xQ), COk w B ∧ AgS s A B → COk w B ∧ Ch w 1 A B := fun B g => ⟨g.1, (g.2.ch h0 (by omega)).le (by omega)⟩
  rcases op28 hop0 with rfl | rfl | rfl | rfl | rfl | rfl | rfl | rfl | rfl | rfl | rfl | rfl | rfl | rfl | rfl | rfl | rfl | rfl | rfl | rfl | rfl | rfl | rfl | rfl | rfl | rfl | rfl | rfl
  · exact fin _ (OpF.err hF 0) rfl
  · exact fin _ (OpF.push (AgF.refl f A) hF hw3 (VV.num (by omega))) (aPush_2 _ _ _ _)
  · exact fin _ (OpF.push (AgF.refl f A) hF hw3 (VV.num (by omega))) (aPush_2 _ _ _ _)
  · exact fin _ (OpF.push (AgF.refl f A) hF hw3 (VV.num (by omega))) (aPush_2 _ _ _ _)
  · exact fin _ (OpF.push (AgF.refl f A) hF hw3 (hF.v (by have := i1 (Or.inl rfl); omega))) (aPush_2 _ _ _ _)
  · exact fin (0, aPop (aCopy (f + 2) (f + 3) (1 + a) (f + 2) (f + 3) (4 + A.1 f 3) A) f 1) ⟨(cell_r A f _ _ _).2.2.2.pop, (hF.cell hw3 (Or.inl (by omega)) (hF.v (by have : 1 ≤ A.1 f 3 := hsz; omega))).pop hw3⟩ ((aPop_2 _ _ _).trans (aCell_2 _ _ _ _ _))
  · exact fin (0, aPop A f 1) ⟨(AgF.refl f A).pop, hF.pop hw3⟩ (aPop_2 _ _ _)
  · exact fin _ (OpF.push (AgF.refl f A) hF hw3 (hF.v (by have : 1 ≤ A.1 f 3 := hsz; omega))) (aPush_2 _ _ _ _)
  · refine fin _ (OpF.compute hF hw3) ?_
    show (aCompute A f 8).2.1 f 2 = _
    unfold aCompute
    split
    · rfl
    · split
      · rfl
      · split <;> rw [aPush_2, aPop_2]
  · refine fin _ (OpF.compute hF hw3) ?_
    show (aCompute A f 9).2.1 f 2 = _
    unfold aCompute
    split
    · rfl
    · split
      · rfl
      · split <;> rw [aPush_2, aPop_2]
  · refine fin _ (OpF.compute hF hw3) ?_
    show (aCompute A f 10).2.1 f 2 = _
    unfold aCompute
    split
    · rfl
    · split
      · rfl
      · split <;> rw [aPush_2, aPop_2]
  · refine fin _ (OpF.compute hF hw3) ?_
    show (aCompute A f 11).2.1 f 2 = _
    unfold aCompute
    split
    · rfl
    · split
      · rfl
      · split <;> rw [aPush_2, aPop_2]
  · refine fin _ (OpF.compare hF hw3) ?_
    show (aCompare A f).2.1 f 2 = _
    unfold aCompare aAnswer
    split
    · rfl
    · rw [aPush_2, aPop_2]
  · refine fin _ (OpF.answer hF hw3) ?_
    show (aAnswer A f _).2.1 f 2 = _
    unfold aAnswer
    rw [aPush_2, aPop_2]
  · have ag : AgF f A (xsI A f 2 b) := (AgF.refl f A).i
    obtain ⟨g1, g2, _⟩ := h.opf (r := (0, xsI A f 2 b)) ht hk hf ⟨ag, hF.place hw3 (by have := i5 (Or.inl rfl); omega)⟩
    exact ⟨g1, g2.le (by omega)⟩
  · obtain ⟨g1, g2, _⟩ := h.opf ht hk hf (OpF.branch (p := b) hF hw3 (i5 (Or.inr rfl)) (by omega))
    exact ⟨g1, g2.le (by omega)⟩
  · obtain ⟨m1, m2, m3, m4⟩ := h.room hW
    refine fin2 _ ?_
    show COk w (if (aRoom w A).1 (w + 2) 4 < 24 then aRecord w (aRoom w A) f else (4, aRoom w A)).2 ∧ _
    by_cases hr : (aRoom w A).1 (w + 2) 4 < 24
    · simp only [aPl, aOnObj, if_pos hr]
      have htB : t < (aRoom w A).1 w 2 := by rw [m3 _ _ (by omega)]; exact ht
      have hkB : k + 1 = (aRoom w A).1 (w + 11 + 25 * t) 3 := by rw [m3 _ _ (by omega)]; exact hk
      obtain ⟨g1, g2, g3, g4⟩ := m1.record hr htB hkB hf
      exact ⟨g1, m2.trans g2, by rw [g3, m3 _ _ (by omega)], by rw [g4, m3 _ _ (by omega)]⟩
    · simp only [aPl, aOnObj, if_neg hr]
      exact ⟨m1, m2, m3 _ _ (by omega), m3 _ _ (by omega)⟩
  · refine fin _ (OpF.get hF hw3 hO hsz (by have := i2 (Or.inl rfl); omega)) ?_
    show (aGet w A f a).2.1 f 2 = _
    unfold aGet
    split
    · exact aCell_2 _ _ _ _ _
    · rfl
  · exact fin2 _ (h.put ht hk hf hsz)
  · obtain ⟨m1, m2, m3, m4⟩ := h.room hW
    refine fin2 _ ?_
    show COk w (if (aRoom w A).1 (w + 2) 4 < 24 then aClosure w (aRoom w A) f a b else (4, aRoom w A)).2 ∧ _
    by_cases hr : (aRoom w A).1 (w + 2) 4 < 24
    · simp only [aPl, aOnObj, if_pos hr]
      have htB : t < (aRoom w A).1 w 2 := by rw [m3 _ _ (by omega)]; exact ht
      have hkB : k + 1 = (aRoom w A).1 (w + 11 + 25 * t) 3 := by rw [m3 _ _ (by omega)]; exact hk
      obtain ⟨g1, g2, g3, g4⟩ := m1.closure (fn := a) (n := b) hr htB hkB hf (by have := i3 (Or.inl rfl); omega) (i6 rfl) (by rw [m3 _ _ (by omega)]; exact hsz)
      exact ⟨g1, m2.trans g2, by rw [g3, m3 _ _ (by omega)], by rw [g4, m3 _ _ (by omega)]⟩
    · simp only [aPl, aOnObj, if_neg hr]
      exact ⟨m1, m2, m3 _ _ (by omega), m3 _ _ (by omega)⟩
  · refine fin _ (OpF.held hF hw3 hO) ?_
    show (aHeld w A f a).2.1 f 2 = _
    unfold aHeld
    split
    · split
      · exact aPush_2 _ _ _ _
      · rfl
    · rfl
  · exact fs _ (h.enter ht hs hst hfs (by omega) (by have := i3 (Or.inr (Or.inl rfl)); omega))
  · exact fs _ (h.apply ht hs hst hfs (by omega) hsz)
  · exact fs _ (h.leave ht hs hst hfs hsz)
  · refine fin _ (OpF.throw hF) ?_
    show (aThrow A f).2.1 f 2 = _
    unfold aThrow
    split <;> rfl
  · exact COk.goOn h0 ht hk hf (by omega) (h.say ht hk hf)
  · exact fin2 _ (h.fork ht hk hf (by have := i3 (Or.inr (Or.inr rfl)); omega) hsz)
  · exact fin _ (OpF.err hF 0) rfl
theorem aPl_lt (w : Nat) (A : xQ) (f op a b : Nat) : (aPl w A f op a b).1 < 32 := by
  unfold aPl
  split
  all_goals first | exact aOnObj_lt _ _ _ _ _ _ | exact aInLine_lt _ _ _ _ _ _
theorem COk.pl {T : Nat → Option xT} {R : Nat → Nat → Option Nat} {w t s f op a b : Nat} {A : xQ} (hW : xW0 T R w) (h : COk w A) (ht : t < A.1 w 2) (hs : s = w + 11 + 25 * t) (hst : A.1 s 2 = 0) (hfs : f + 4 = s + 5 + 4 * A.1 s 3) (hI : IOk op a b) (hsz : aNeed A op a b ≤ A.1 f 3) (hop : op ≠ 14 ∧ op ≠ 15 ∧ op ≠ 21 ∧ op ≠ 22 ∧ op ≠ 23) : COk w (aPl w A f op a b).2 ∧ Ch w 1 A (aPl w A f op a b).2 ∧ (aPl w A f op a b).2.1 f 2 = A.1 f 2 ∧ (aPl w A f op a b).2.1 (w + 11 + 25 * t) 3 = A.1 (w + 11 + 25 * t) 3 := by
  have h0 := h.1
  have hS := h.st ht
  rw [← hs] at hS
  obtain ⟨q1, q2, q3, q4, q5, q6, q7⟩ := hS
  have hd1 := q3 hst
  obtain ⟨k, hk⟩ : ∃ k, k + 1 = A.1 (w + 11 + 25 * t) 3 := ⟨A.1 s 3 - 1, by rw [← hs]; omega⟩
  have hf : f = w + 11 + 25 * t + 5 + 4 * k := by rw [hs] at hfs; omega
  have hF := h.fr (k := k) ht (by omega)
  rw [← hf] at hF
  have hw3 : w + 3 < f := by omega
  have hO := h.2.1.2.2
  have hc3 := h.cnt
  obtain ⟨hop0, i1, i2, i3, i4, i5, i6⟩ := hI
  have fin : ∀ (r : Nat × xQ), OpF w f A r → r.2.1 f 2 = A.1 f 2 → COk w r.2 ∧ Ch w 1 A r.2 ∧ r.2.1 f 2 = A.1 f 2 ∧ r.2.1 (w + 11 + 25 * t) 3 = A.1 (w + 11 + 25 * t) 3 := by
    intro r ho h2
    obtain ⟨g1, g2, g3⟩ := h.opf ht hk hf ho
    exact ⟨g1, g2.le (by omega), h2, g3⟩
  have fin2 : ∀ (r : Nat × xQ), (COk w r.2 ∧ Ch w 0 A r.2 ∧ r.2.1 f 2 = A.1 f 2 ∧ r.2.1 (w + 11 + 25 * t) 3 = A.1 (w + 11 + 25 * t) 3) → COk w r.2 ∧ Ch w 1 A r.2 ∧ r.2.1 f 2 = A.1 f 2 ∧ r.2.1 (w + 11 + 25 * t) 3 = A.1 (w + 11 + 25 * t) 3 := by
    intro r ⟨g1, g2, g3, g4⟩
    exact ⟨g1, g2.le (by omega), g3, g4⟩
  rcases op28 hop0 with rfl | rfl | rfl | rfl | rfl | rfl | rfl | rfl | rfl | rfl | rfl | rfl | rfl | rfl | rfl | rfl | rfl | rfl | rfl | rfl | rfl | rfl | rfl | rfl | rfl | rfl | rfl | rfl
  · exact fin _ (OpF.err hF 0) rfl
  · exact fin _ (OpF.push (AgF.refl f A) hF hw3 (VV.num (by omega))) (aPush_2 _ _ _ _)
  · exact fin _ (OpF.push (AgF.refl f A) hF hw3 (VV.num (by omega))) (aPush_2 _ _ _ _)
  · exact fin _ (OpF.push (AgF.refl f A) hF hw3 (VV.num (by omega))) (aPush_2 _ _ _ _)
  · exact fin _ (OpF.push (AgF.refl f A) hF hw3 (hF.v (by have := i1 (Or.inl rfl); omega))) (aPush_2 _ _ _ _)
  · exact fin (0, aPop (aCopy (f + 2) (f + 3) (1 + a) (f + 2) (f + 3) (4 + A.1 f 3) A) f 1) ⟨(cell_r A f _ _ _).2.2.2.pop, (hF.cell hw3 (Or.inl (by omega)) (hF.v (by have : 1 ≤ A.1 f 3 := hsz; omega))).pop hw3⟩ ((aPop_2 _ _ _).trans (aCell_2 _ _ _ _ _))
  · exact fin (0, aPop A f 1) ⟨(AgF.refl f A).pop, hF.pop hw3⟩ (aPop_2 _ _ _)
  · exact fin _ (OpF.push (AgF.refl f A) hF hw3 (hF.v (by have : 1 ≤ A.1 f 3 := hsz; omega))) (aPush_2 _ _ _ _)
  · refine fin _ (OpF.compute hF hw3) ?_
    show (aCompute A f 8).2.1 f 2 = _
    unfold aCompute
    split
    · rfl
    · split
      · rfl
      · split <;> rw [aPush_2, aPop_2]
  · refine fin _ (OpF.compute hF hw3) ?_
    show (aCompute A f 9).2.1 f 2 = _
    unfold aCompute
    split
    · rfl
    · split
      · rfl
      · split <;> rw [aPush_2, aPop_2]
  · refine fin _ (OpF.compute hF hw3) ?_
    show (aCompute A f 10).2.1 f 2 = _
    unfold aCompute
    split
    · rfl
    · split
      · rfl
      · split <;> rw [aPush_2, aPop_2]
  · refine fin _ (OpF.compute hF hw3) ?_
    show (aCompute A f 11).2.1 f 2 = _
    unfold aCompute
    split
    · rfl
    · split
      · rfl
      · split <;> rw [aPush_2, aPop_2]
  · refine fin _ (OpF.compare hF hw3) ?_
    show (aCompare A f).2.1 f 2 = _
    unfold aCompare aAnswer
    split
    · rfl
    · rw [aPush_2, aPop_2]
  · refine fin _ (OpF.answer hF hw3) ?_
    show (aAnswer A f _).2.1 f 2 = _
    unfold aAnswer
    rw [aPush_2, aPop_2]
  · omega
  · omega
  · obtain ⟨m1, m2, m3, m4⟩ := h.room hW
    refine fin2 _ ?_
    show COk w (if (aRoom w A).1 (w + 2) 4 < 24 then aRecord w (aRoom w A) f else (4, aRoom w A)).2 ∧ _
    by_cases hr : (aRoom w A).1 (w + 2) 4 < 24
    · simp only [aPl, aOnObj, if_pos hr]
      have htB : t < (aRoom w A).1 w 2 := by rw [m3 _ _ (by omega)]; exact ht
      have hkB : k + 1 = (aRoom w A).1 (w + 11 + 25 * t) 3 := by rw [m3 _ _ (by omega)]; exact hk
      obtain ⟨g1, g2, g3, g4⟩ := m1.record hr htB hkB hf
      exact ⟨g1, m2.trans g2, by rw [g3, m3 _ _ (by omega)], by rw [g4, m3 _ _ (by omega)]⟩
    · simp only [aPl, aOnObj, if_neg hr]
      exact ⟨m1, m2, m3 _ _ (by omega), m3 _ _ (by omega)⟩
  · refine fin _ (OpF.get hF hw3 hO hsz (by have := i2 (Or.inl rfl); omega)) ?_
    show (aGet w A f a).2.1 f 2 = _
    unfold aGet
    split
    · exact aCell_2 _ _ _ _ _
    · rfl
  · exact fin2 _ (h.put ht hk hf hsz)
  · obtain ⟨m1, m2, m3, m4⟩ := h.room hW
    refine fin2 _ ?_
    show COk w (if (aRoom w A).1 (w + 2) 4 < 24 then aClosure w (aRoom w A) f a b else (4, aRoom w A)).2 ∧ _
    by_cases hr : (aRoom w A).1 (w + 2) 4 < 24
    · simp only [aPl, aOnObj, if_pos hr]
      have htB : t < (aRoom w A).1 w 2 := by rw [m3 _ _ (by omega)]; exact ht
      have hkB : k + 1 = (aRoom w A).1 (w + 11 + 25 * t) 3 := by rw [m3 _ _ (by omega)]; exact hk
      obtain ⟨g1, g2, g3, g4⟩ := m1.closure (fn := a) (n := b) hr htB hkB hf (by have := i3 (Or.inl rfl); omega) (i6 rfl) (by rw [m3 _ _ (by omega)]; exact hsz)
      exact ⟨g1, m2.trans g2, by rw [g3, m3 _ _ (by omega)], by rw [g4, m3 _ _ (by omega)]⟩
    · simp only [aPl, aOnObj, if_neg hr]
      exact ⟨m1, m2, m3 _ _ (by omega), m3 _ _ (by omega)⟩
  · refine fin _ (OpF.held hF hw3 hO) ?_
    show (aHeld w A f a).2.1 f 2 = _
    unfold aHeld
    split
    · split
      · exact aPush_2 _ _ _ _
      · rfl
    · rfl
  · omega
  · omega
  · omega
  · refine fin _ (OpF.throw hF) ?_
    show (aThrow A f).2.1 f 2 = _
    unfold aThrow
    split <;> rfl
  · exact h.say ht hk hf
  · exact fin2 _ (h.fork ht hk hf (by have := i3 (Or.inr (Or.inr rfl)); omega) hsz)
  · exact fin _ (OpF.err hF 0) rfl
