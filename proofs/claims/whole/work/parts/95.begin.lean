-- THE START
def isOk (r : Option xR) : Bool := match r with
  | some (.inr none, _) => true
  | _ => false
def okS (r : Option xR) : xS := match r with
  | some (.inr none, S) => S
  | _ => xS0
theorem isOk_eq {r : Option xR} (h : isOk r = true) : r = some (.inr none, okS r) := by
  unfold isOk at h
  split at h
  · rfl
  · cases h
def kR1 : Option xR := xmeth 20000 0 [.ref 0] (xnew xS0 (.inl 0))
def kS1 : xS := okS kR1
def kR2 : Option xR := xmeth 20000 110 [.ref 189] (xnew kS1 (.inl 11))
def kS2 : xS := okS kR2
def kS3 : xS := xnew kS2 (.inr (1, 1))
theorem kR1_ok : isOk kR1 = true := by decide +kernel
theorem kR2_ok : isOk kR2 = true := by decide +kernel
theorem kz1 : xz kS1 = 189 := by decide +kernel
theorem kz2 : xz kS2 = 229 := by decide +kernel
theorem kT_ok : (List.range 230).all (fun a => decide (xt kS3 a = xT0l[a]?)) = true := by decide +kernel
theorem kT2_ok : (decide (xt kS3 1000000 = none) && decide (xt kS3 1000001 = none) && decide (xt kS3 1000002 = none)) = true := by decide +kernel
theorem kR_ok : (List.range 230).all (fun a => (List.range 60).all (fun k => match xR0 a k with
  | some r => decide (xr kS3 a k = some r)
  | none => true)) = true := by decide +kernel
theorem kRl_ok : (decide (xR0l.length ≤ 230) && xR0l.all (fun l => decide (l.length ≤ 60))) = true := by decide +kernel
theorem kRr_ok : (decide (xr kS3 0 5 = some 103) && decide (xr kS3 11 1 = some 12) && decide (xr kS3 102 1 = none)) = true := by decide +kernel
def iz (S : xS) (a k : Nat) : Bool := decide (xi S a k = 0)
def izL (S : xS) : Bool := [(12, 2), (12, 3), (12, 4), (14, 4), (11, 3), (11, 4), (189, 9), (189, 10), (189, 11), (189, 15), (189, 12), (189, 13), (189, 16), (99, 1), (189, 35)].all (fun p => iz S p.1 p.2)
def izF (S : xS) : Bool := (List.range 6).all (fun f => iz S 2 f && iz S 3 f && iz S 7 f && iz S 190 f && iz S 191 f && iz S 192 f)
def izO (S : xS) : Bool := (List.range 24).all (fun o => iz S 15 o && iz S 208 o)
def izW (S : xS) : Bool := decide (xi S 189 37 = xi S 102 2)
theorem kI1_ok : izL kS3 = true := by decide +kernel
theorem kI2_ok : izF kS3 = true := by decide +kernel
theorem kI3_ok : izO kS3 = true := by decide +kernel
theorem kI4_ok : izW kS3 = true := by decide +kernel
def qA (S : xS) : xQ := (fun a k => (xi S a k).toUInt32.toNat, xj S)
section KS
variable {S : xS}
theorem kz {a k : Nat} (h : iz S a k = true) : (qA S).1 a k = 0 := by
  have : xi S a k = 0 := of_decide_eq_true h
  show (xi S a k).toUInt32.toNat = 0
  rw [this]
  rfl
theorem kLay (h0 : (List.range 230).all (fun a => decide (xt S a = xT0l[a]?)) = true) (h1 : (decide (xt S 1000000 = none) && decide (xt S 1000001 = none) && decide (xt S 1000002 = none)) = true) (h4 : (List.range 230).all (fun a => (List.range 60).all (fun k => match xR0 a k with
  | some r => decide (xr S a k = some r)
  | none => true)) = true) (h2 : (decide (xr S 0 5 = some 103) && decide (xr S 11 1 = some 12) && decide (xr S 102 1 = none)) = true) : xLay (xt S) (xr S) 12 := by
  have h3 := kRl_ok
  simp only [Bool.and_eq_true, decide_eq_true_eq] at h1 h2 h3
  refine ⟨Or.inl rfl, fun a t ht => ?_, fun j hj => ?_, fun a k r hr => ?_, h2.1.1, h2.1.2⟩
  · have hl : a < 230 := by
      have := (List.getElem?_eq_some_iff.mp ht).1
      exact this
    have := of_decide_eq_true (List.all_eq_true.mp h0 a (List.mem_range.mpr hl))
    rw [this]; exact ht
  · have : j = 0 ∨ j = 1 ∨ j = 2 := by omega
    rcases this with rfl | rfl | rfl
    · exact h1.1.1
    · exact h1.1.2
    · exact h1.2
  · have hr0 := hr
    unfold xR0 at hr
    split at hr
    · next l hl =>
      split at hr
      · next x hx =>
        have a1 := (List.getElem?_eq_some_iff.mp hl).1
        have a2 := (List.getElem?_eq_some_iff.mp hx).1
        have a3 := of_decide_eq_true (List.all_eq_true.mp h3.2 l (List.mem_of_getElem? hl))
        have := List.all_eq_true.mp (List.all_eq_true.mp h4 a (List.mem_range.mpr (by omega))) k (List.mem_range.mpr (by omega))
        rw [hr0] at this
        exact of_decide_eq_true this
      · cases hr
    · cases hr
theorem kInv (hL : xLay (xt S) (xr S) 12) (hw : (decide (xr S 0 5 = some 103) && decide (xr S 11 1 = some 12) && decide (xr S 102 1 = none)) = true) (i1 : izL S = true) (i2 : izF S = true) (i3 : izO S = true) (i4 : izW S = true) : Inv (xt S) (xr S) 12 0 (qA S) := by
  have f2 : ∀ f, f < 6 → (qA S).1 2 f = 0 ∧ (qA S).1 3 f = 0 ∧ (qA S).1 7 f = 0 ∧ (qA S).1 190 f = 0 ∧ (qA S).1 191 f = 0 ∧ (qA S).1 192 f = 0 := fun f hf => by
    have := List.all_eq_true.mp i2 f (List.mem_range.mpr hf)
    simp only [Bool.and_eq_true] at this
    obtain ⟨⟨⟨⟨⟨b1, b2⟩, b3⟩, b4⟩, b5⟩, b6⟩ := this
    exact ⟨kz b1, kz b2, kz b3, kz b4, kz b5, kz b6⟩
  have f3 : ∀ o, o < 24 → (qA S).1 15 o = 0 ∧ (qA S).1 208 o = 0 := fun o ho => by
    have := List.all_eq_true.mp i3 o (List.mem_range.mpr ho)
    simp only [Bool.and_eq_true] at this
    exact ⟨kz this.1, kz this.2⟩
  have g : ∀ a k, (a, k) ∈ [(12, 2), (12, 3), (12, 4), (14, 4), (11, 3), (11, 4), (189, 9), (189, 10), (189, 11), (189, 15), (189, 12), (189, 13), (189, 16), (99, 1), (189, 35)] → (qA S).1 a k = 0 := fun a k h => kz (List.all_eq_true.mp i1 (a, k) h)
  have w37 : (qA S).1 189 37 = (qA S).1 102 2 := by
    show (xi S 189 37).toUInt32.toNat = (xi S 102 2).toUInt32.toNat
    rw [of_decide_eq_true i4]
  have hlt : ∀ a k, (qA S).1 a k < 4294967296 := fun a k => nI_lt32 _
  have h102 : ∀ b, xr S 102 1 = some b → b = 12 ∨ b = 103 := fun b hb => by
    simp only [Bool.and_eq_true, decide_eq_true_eq] at hw
    rw [hw.2] at hb
    cases hb
  generalize qA S = A at *
  have g122 := g 12 2 (by decide)
  have g123 := g 12 3 (by decide)
  have g124 := g 12 4 (by decide)
  have g144 := g 14 4 (by decide)
  have g113 := g 11 3 (by decide)
  have g114 := g 11 4 (by decide)
  have g99 := g 99 1 (by decide)
  have hOO : ∀ o, o < 24 → OOk 12 A o := fun o ho => by
    have k0 : A.1 (12 + 3) o = 0 := (f3 o ho).1
    exact ⟨Or.inl k0, fun q => by omega, fun q => by omega, fun q => absurd k0 q⟩
  refine ⟨hL, h102, ⟨Or.inl rfl, ⟨by omega, fun t ht => by omega, hOO⟩, fun f hf => ?_, ?_, fun t ht => by omega, by omega⟩, fun h => absurd g122 h, ⟨fun f hf => ?_, ⟨?_, by omega, w37, fun i hi => by omega⟩, ⟨?_, ?_, ?_, ?_, ?_, ?_, ?_, fun _ => ⟨g123, g124, g144, g114, g113⟩, fun i _ hi => by omega⟩, fun t ht => by omega, fun o ho => ?_⟩, by omega, by omega⟩
  · obtain ⟨b1, b2, b3, b4, b5, b6⟩ := f2 f hf
    exact ⟨by omega, by omega, by omega, fun j hj => by omega, fun j hj => by omega⟩
  · unfold HOk
    rw [xcnt_zero 24 (fun o ho => by rw [decide_eq_true ((f3 o ho).1 : A.1 (12 + 3) o = 0)]; rfl)]
    exact g144
  · obtain ⟨b1, b2, b3, b4, b5, b6⟩ := f2 f hf
    exact ⟨by omega, by omega, by omega, fun j hj => by omega, fun j hj => by omega⟩
  · rw [g 189 35 (by decide), g99]
  · rw [g 189 9 (by decide), g122]
  · rw [g 189 10 (by decide), g123]
  · rw [g 189 11 (by decide), g124]
  · rw [g 189 15 (by decide)]; exact g144.symm
  · rw [g 189 12 (by decide), g114]
  · rw [g 189 13 (by decide), g113]
  · rw [g 189 16 (by decide), if_pos g122]
  · have k0 : A.1 (12 + 3) o = 0 := (f3 o ho).1
    exact ⟨by rw [if_pos k0]; exact (f3 o ho).2, fun q => absurd k0 q, hlt _ _, hlt _ _⟩
end KS
theorem kInv0 : Inv (xt kS3) (xr kS3) 12 0 (qA kS3) := kInv (kLay kT_ok kT2_ok kR_ok kRr_ok) kRr_ok kI1_ok kI2_ok kI3_ok kI4_ok
theorem law_first {L : Nat} {xs : Nat → Int32} {P : xR → Prop} (h : ∀ c q, c ≤ 300 → q ≤ 40000 → xPL L xs 23 [(0, .ref 1000003), (1, .ref 0), (2, .ref 189), (3, .ref 229), (4, .int (nI 0))] [] c q kS3 P) : xPL L xs 0 [(0, .ref 1000003)] [] 0 0 xS0 P := by
  have h1 : xF 0 [.ref 0] (xnew xS0 (.inl 0)) (.inr none, kS1) := ⟨20000, isOk_eq kR1_ok⟩
  have h2 : xF 110 [.ref 189] (xnew kS1 (.inl 11)) (.inr none, kS2) := ⟨20000, isOk_eq kR2_ok⟩
  refine xpL_newo rfl rfl rfl (by decide) (by decide) (by decide) ?_
  refine xpL_dup rfl rfl ?_
  refine xpL_sp rfl rfl rfl (Nat.le_of_ble_eq_true rfl) (by decide) (by decide) (by decide) (Nat.le_of_ble_eq_true rfl) rfl rfl h1 rfl ?_
  refine xpL_astore_n rfl (by decide) ?_
  refine xpL_newo rfl rfl rfl (by decide) (by decide) (by rw [kz1]; decide) ?_
  rw [kz1]
  refine xpL_dup rfl rfl ?_
  refine xpL_sp rfl rfl rfl (Nat.le_of_ble_eq_true rfl) (by decide) (by decide) (by decide) (Nat.le_of_ble_eq_true rfl) rfl rfl h2 rfl ?_
  refine xpL_astore_n rfl (by decide) ?_
  refine xpL_iconst (n := 1) rfl (by decide) ?_
  refine xpL_newl rfl (by decide) (by decide) (by rw [kz2]; decide) ?_
  rw [kz2]
  refine xpL_astore_n rfl (by decide) ?_
  refine xpL_iconst (n := 0) rfl (by decide) ?_
  refine xpL_istore rfl (by decide) ?_
  refine xpL_weak [(0, .ref 1000003), (1, .ref 0), (2, .ref 189), (3, .ref 229), (4, .int (nI 0))] (xle_cons rfl (xle_cons rfl (xle_cons rfl (xle_cons rfl (xle_cons rfl (xle_nil _)))))) (by simp [xnd]) ?_
  exact h _ _ (by decide) (by decide)
