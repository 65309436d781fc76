-- CLASS AND REFERENCE HOLD THE SAME: A is the class's memory, B the reference's
def RelF (f m : Nat) (A B : xQ) : Prop := B.1 202 m = A.1 f 1 ∧ B.1 203 m = A.1 f 2 ∧ B.1 205 m = A.1 f 3 ∧ ((A.1 (f + 2) 0 = 0 ∧ B.1 204 m = 4294967295) ∨ (A.1 (f + 2) 0 = 4 ∧ B.1 204 m = oN (A.2 (f + 3) 0))) ∧ ∀ c, c < 4 + A.1 f 3 → B.1 206 (10 * m + c) = A.1 (f + 2) (1 + c) ∧ B.2 207 (10 * m + c) = A.2 (f + 3) (1 + c)
def RelS (s t : Nat) (A B : xQ) : Prop := B.1 199 t = A.1 s 2 ∧ (B.1 200 t = A.1 s 4 ∧ (A.1 s 2 = 0 → A.1 s 4 = 0)) ∧ B.1 201 t = A.1 s 3 ∧ (A.1 s 2 = 1 → B.1 206 (150 + t) = A.1 (s + 3) 0 ∧ B.2 207 (150 + t) = A.2 (s + 4) 0) ∧ ∀ k, k < A.1 s 3 → RelF (s + 5 + 4 * k) (5 * t + k) A B
def RelO (w o : Nat) (A B : xQ) : Prop := (B.1 208 o = if A.1 (w + 3) o = 0 then 0 else 1) ∧ (A.1 (w + 3) o ≠ 0 → B.1 210 o = A.1 (w + 3) o ∧ (A.1 (w + 3) o = 4 → B.1 211 o = A.1 (w + 4) o ∧ B.1 212 o = A.1 (w + 5) o) ∧ ∀ i, i < A.1 (w + 5) o → B.1 206 (160 + 3 * o + i) = A.1 (w + 7) (o * 3 + i) ∧ B.2 207 (160 + 3 * o + i) = A.2 (w + 8) (o * 3 + i)) ∧ B.1 210 o < 4294967296 ∧ B.1 212 o < 4294967296
def RelP (A B : xQ) : Prop := ∀ f, f < 6 → B.1 190 f = A.1 2 f ∧ B.1 191 f = A.1 3 f ∧ B.1 192 f = A.1 7 f ∧ (∀ j, j < A.1 3 f → B.1 193 (30 * f + j) = A.1 4 (f * 30 + j) ∧ B.1 194 (30 * f + j) = A.1 5 (f * 30 + j) ∧ B.1 195 (30 * f + j) = A.1 6 (f * 30 + j)) ∧ ∀ j, j < A.1 7 f → B.1 196 (3 * f + j) = A.1 8 (f * 3 + j) ∧ B.1 197 (3 * f + j) = A.1 9 (f * 3 + j) ∧ B.1 198 (3 * f + j) = A.1 10 (f * 3 + j)
def RelI (A B : xQ) : Prop := B.1 189 35 = A.1 99 1 ∧ A.1 99 1 ≤ 2400 ∧ B.1 189 37 = A.1 102 2 ∧ ∀ i, i < A.1 99 1 → B.1 214 i = A.1 100 i ∧ A.1 100 i < 256
def RelC (w : Nat) (A B : xQ) : Prop := B.1 189 9 = A.1 w 2 ∧ B.1 189 10 = A.1 w 3 ∧ B.1 189 11 = A.1 w 4 ∧ B.1 189 15 = A.1 (w + 2) 4 ∧ B.1 189 12 = A.1 11 4 ∧ B.1 189 13 = A.1 11 3 ∧ (B.1 189 16 = if A.1 w 2 = 0 then 0 else 1) ∧ (A.1 w 2 = 0 → A.1 w 3 = 0 ∧ A.1 w 4 = 0 ∧ A.1 (w + 2) 4 = 0 ∧ A.1 11 4 = 0 ∧ A.1 11 3 = 0) ∧ ∀ i, i < 40 → i < A.1 11 3 → B.2 213 i = A.2 98 i
def Rel (w : Nat) (A B : xQ) : Prop := RelP A B ∧ RelI A B ∧ RelC w A B ∧ (∀ t, t < A.1 w 2 → RelS (w + 11 + 25 * t) t A B) ∧ ∀ o, o < 24 → RelO w o A B
section RL
variable {w : Nat} {A A2 B B2 : xQ}
theorem RelP.same (h : RelP A B) (h1 : ∀ a j, 2 ≤ a → a ≤ 10 → A2.1 a j = A.1 a j) (h2 : ∀ a j, 190 ≤ a → a ≤ 198 → B2.1 a j = B.1 a j) : RelP A2 B2 := by
  intro f hf
  obtain ⟨q1, q2, q3, q4, q5⟩ := h f hf
  rw [h1 2 f (by omega) (by omega), h1 3 f (by omega) (by omega), h1 7 f (by omega) (by omega), h2 190 f (by omega) (by omega), h2 191 f (by omega) (by omega), h2 192 f (by omega) (by omega)]
  refine ⟨q1, q2, q3, fun j hj => ?_, fun j hj => ?_⟩
  · rw [h1 4 _ (by omega) (by omega), h1 5 _ (by omega) (by omega), h1 6 _ (by omega) (by omega), h2 193 _ (by omega) (by omega), h2 194 _ (by omega) (by omega), h2 195 _ (by omega) (by omega)]
    exact q4 j hj
  · rw [h1 8 _ (by omega) (by omega), h1 9 _ (by omega) (by omega), h1 10 _ (by omega) (by omega), h2 196 _ (by omega) (by omega), h2 197 _ (by omega) (by omega), h2 198 _ (by omega) (by omega)]
    exact q5 j hj
theorem RelI.same (h : RelI A B) (h1 : ∀ j, A2.1 99 j = A.1 99 j) (h2 : ∀ j, A2.1 100 j = A.1 100 j) (h3 : A2.1 102 2 = A.1 102 2) (g1 : B2.1 189 35 = B.1 189 35) (g2 : B2.1 189 37 = B.1 189 37) (g3 : ∀ j, B2.1 214 j = B.1 214 j) : RelI A2 B2 := by
  obtain ⟨q1, q2, q3, q4⟩ := h
  unfold RelI
  rw [h1, h3, g1, g2]
  refine ⟨q1, q2, q3, fun i hi => ?_⟩
  rw [h2, g3]
  exact q4 i hi
theorem RelF.away {f m : Nat} (h : RelF f m A B) (h6 : A.1 f 3 ≤ 6) (h1 : ∀ j, A2.1 f j = A.1 f j) (h2 : ∀ j, A2.1 (f + 2) j = A.1 (f + 2) j) (h3 : ∀ j, A2.2 (f + 3) j = A.2 (f + 3) j) (g1 : ∀ a, 202 ≤ a → a ≤ 205 → B2.1 a m = B.1 a m) (g2 : ∀ j, 10 * m ≤ j → j < 10 * m + 10 → B2.1 206 j = B.1 206 j) (g3 : ∀ j, 10 * m ≤ j → j < 10 * m + 10 → B2.2 207 j = B.2 207 j) : RelF f m A2 B2 := by
  obtain ⟨q1, q2, q3, q4, q5⟩ := h
  unfold RelF
  rw [g1 202 (by omega) (by omega), g1 203 (by omega) (by omega), g1 204 (by omega) (by omega), g1 205 (by omega) (by omega), h1, h1, h1, h2, h3]
  refine ⟨q1, q2, q3, q4, fun c hc => ?_⟩
  rw [g2 _ (by omega) (by omega), g3 _ (by omega) (by omega), h2, h3]
  exact q5 c hc
theorem RelS.away {s t : Nat} (h : RelS s t A B) (ht : t < 3) (hS : SOk w A s) (h1 : ∀ a j, s ≤ a → a < s + 25 → A2.1 a j = A.1 a j) (h2 : ∀ a j, s ≤ a → a < s + 25 → A2.2 a j = A.2 a j) (g1 : ∀ a, 199 ≤ a → a ≤ 201 → B2.1 a t = B.1 a t) (g2 : ∀ a j, 202 ≤ a → a ≤ 205 → 5 * t ≤ j → j < 5 * t + 5 → B2.1 a j = B.1 a j) (g3 : ∀ j, (50 * t ≤ j ∧ j < 50 * t + 50) ∨ j = 150 + t → B2.1 206 j = B.1 206 j) (g4 : ∀ j, (50 * t ≤ j ∧ j < 50 * t + 50) ∨ j = 150 + t → B2.2 207 j = B.2 207 j) : RelS s t A2 B2 := by
  obtain ⟨q1, q2, q3, q4, q5⟩ := h
  obtain ⟨s1, s2, s3, s4, s5, s6, s7⟩ := hS
  unfold RelS
  rw [g1 199 (by omega) (by omega), g1 200 (by omega) (by omega), g1 201 (by omega) (by omega), h1 s 2 (by omega) (by omega), h1 s 3 (by omega) (by omega), h1 s 4 (by omega) (by omega)]
  refine ⟨q1, q2, q3, fun q => ?_, fun k hk => ?_⟩
  · rw [g3 _ (Or.inr rfl), g4 _ (Or.inr rfl), h1 _ _ (by omega) (by omega), h2 _ _ (by omega) (by omega)]
    exact q4 q
  · exact (q5 k hk).away (s7 k hk).2.2.1 (fun j => h1 _ j (by omega) (by omega)) (fun j => h1 _ j (by omega) (by omega)) (fun j => h2 _ j (by omega) (by omega)) (fun a x y => g2 a _ x y (by omega) (by omega)) (fun j x y => g3 j (by omega)) (fun j x y => g4 j (by omega))
theorem RelO.away {o : Nat} (h : RelO w o A B) (hO : OOk w A o) (h1 : ∀ a, w + 3 ≤ a → a ≤ w + 5 → A2.1 a o = A.1 a o) (h2 : ∀ i, i < 3 → A2.1 (w + 7) (o * 3 + i) = A.1 (w + 7) (o * 3 + i)) (h3 : ∀ i, i < 3 → A2.2 (w + 8) (o * 3 + i) = A.2 (w + 8) (o * 3 + i)) (g1 : ∀ a, 208 ≤ a → a ≤ 212 → a ≠ 209 → B2.1 a o = B.1 a o) (g2 : ∀ i, i < 3 → B2.1 206 (160 + 3 * o + i) = B.1 206 (160 + 3 * o + i)) (g3 : ∀ i, i < 3 → B2.2 207 (160 + 3 * o + i) = B.2 207 (160 + 3 * o + i)) : RelO w o A2 B2 := by
  obtain ⟨q1, q2, q3⟩ := h
  unfold RelO
  rw [h1 (w + 3) (by omega) (by omega), h1 (w + 4) (by omega) (by omega), h1 (w + 5) (by omega) (by omega), g1 208 (by omega) (by omega) (by omega), g1 210 (by omega) (by omega) (by omega), g1 211 (by omega) (by omega) (by omega), g1 212 (by omega) (by omega) (by omega)]
  refine ⟨q1, fun q => ?_, q3⟩
  obtain ⟨p1, p2, p3⟩ := q2 q
  have h3s := hO.sz q
  refine ⟨p1, p2, fun i hi => ?_⟩
  rw [h2 i (by omega), h3 i (by omega), g2 i (by omega), g3 i (by omega)]
  exact p3 i hi
theorem RelC.same (h : RelC w A B) (h1 : ∀ j, A2.1 w j = A.1 w j) (h2 : A2.1 (w + 2) 4 = A.1 (w + 2) 4) (h3 : ∀ j, A2.1 11 j = A.1 11 j) (h4 : ∀ j, A2.2 98 j = A.2 98 j) (g1 : ∀ j, 9 ≤ j → j ≤ 16 → j ≠ 14 → B2.1 189 j = B.1 189 j) (g2 : ∀ j, B2.2 213 j = B.2 213 j) : RelC w A2 B2 := by
  unfold RelC
  rw [h1, h1, h1, h2, h3, h3, g1 9 (by omega) (by omega) (by omega), g1 10 (by omega) (by omega) (by omega), g1 11 (by omega) (by omega) (by omega), g1 12 (by omega) (by omega) (by omega), g1 13 (by omega) (by omega) (by omega), g1 15 (by omega) (by omega) (by omega), g1 16 (by omega) (by omega) (by omega)]
  obtain ⟨q1, q2, q3, q4, q5, q6, q7, q8, q9⟩ := h
  exact ⟨q1, q2, q3, q4, q5, q6, q7, q8, fun i hi hi2 => by rw [g2, h4]; exact q9 i hi hi2⟩
/-- the reference has changed but in its thread t -/
def MAgS (t : Nat) (B B2 : xQ) : Prop := (∀ a j, (a ≤ 198 ∨ 207 ≤ a ∨ ((199 ≤ a ∧ a ≤ 201) ∧ j ≠ t) ∨ ((202 ≤ a ∧ a ≤ 205) ∧ (j < 5 * t ∨ 5 * t + 5 ≤ j)) ∨ (a = 206 ∧ (j < 50 * t ∨ 50 * t + 50 ≤ j) ∧ j ≠ 150 + t)) → B2.1 a j = B.1 a j) ∧ ∀ a j, (a ≠ 207 ∨ ((j < 50 * t ∨ 50 * t + 50 ≤ j) ∧ j ≠ 150 + t)) → B2.2 a j = B.2 a j
theorem MAgS.refl (t : Nat) (B : xQ) : MAgS t B B := ⟨fun _ _ _ => rfl, fun _ _ _ => rfl⟩
theorem MAgS.trans {t : Nat} {C : xQ} (h : MAgS t B B2) (g : MAgS t B2 C) : MAgS t B C := ⟨fun a j q => (g.1 a j q).trans (h.1 a j q), fun a j q => (g.2 a j q).trans (h.2 a j q)⟩
/-- the reference has changed but in its frame m -/
def MAg (m : Nat) (B B2 : xQ) : Prop := (∀ a j, (a ≤ 201 ∨ 207 ≤ a ∨ ((202 ≤ a ∧ a ≤ 205) ∧ j ≠ m) ∨ (a = 206 ∧ (j < 10 * m ∨ 10 * m + 10 ≤ j))) → B2.1 a j = B.1 a j) ∧ ∀ a j, (a ≠ 207 ∨ j < 10 * m ∨ 10 * m + 10 ≤ j) → B2.2 a j = B.2 a j
theorem MAg.refl (m : Nat) (B : xQ) : MAg m B B := ⟨fun _ _ _ => rfl, fun _ _ _ => rfl⟩
theorem MAg.trans {m : Nat} {C : xQ} (h : MAg m B B2) (g : MAg m B2 C) : MAg m B C := ⟨fun a j q => (g.1 a j q).trans (h.1 a j q), fun a j q => (g.2 a j q).trans (h.2 a j q)⟩
theorem MAg.s {t k m : Nat} (h : MAg m B B2) (hm : m = 5 * t + k) (hk : k < 5) : MAgS t B B2 := ⟨fun a j q => h.1 a j (by omega), fun a j q => h.2 a j (by omega)⟩
theorem MAg.d {m v : Nat} (h : MAg m B B2) : MAg m B (xsI B2 205 m v) := h.trans ⟨fun a j q => xsI_ne (by omega), fun _ _ _ => rfl⟩
theorem MAg.p {m v : Nat} (h : MAg m B B2) : MAg m B (xsI B2 203 m v) := h.trans ⟨fun a j q => xsI_ne (by omega), fun _ _ _ => rfl⟩
/-- sort[v] = s, number[v] = n -/
def mSet (B : xQ) (v s : Nat) (n : Int64) : xQ := xsJ (xsI B 206 v s) 207 v n
theorem mSet_1 {v s : Nat} {n : Int64} {a j : Nat} (h : a ≠ 206 ∨ j ≠ v) : (mSet B v s n).1 a j = B.1 a j := xsI_ne h
theorem mSet_2 {v s : Nat} {n : Int64} {a j : Nat} (h : a ≠ 207 ∨ j ≠ v) : (mSet B v s n).2 a j = B.2 a j := xsJ_ne h
theorem mSet_1e {v s : Nat} {n : Int64} : (mSet B v s n).1 206 v = s := by
  show (xsI B 206 v s).1 206 v = s
  exact xsI_eq
theorem mSet_2e {v s : Nat} {n : Int64} : (mSet B v s n).2 207 v = n := xsJ_eq
theorem MAg.c {m v s : Nat} {n : Int64} (h : MAg m B B2) (h1 : 10 * m ≤ v) (h2 : v < 10 * m + 10) : MAg m B (mSet B2 v s n) := h.trans ⟨fun a j q => mSet_1 (by omega), fun a j q => mSet_2 (by omega)⟩
theorem Rel.strand {t s : Nat} (h : Rel w A B) (hc : COk w A) (ht : t < A.1 w 2) (hs : s = w + 11 + 25 * t) (ha : AgS s A A2) (hb : MAgS t B B2) (hS : RelS s t A2 B2) : Rel w A2 B2 := by
  have h0 := hc.1
  have hc3 := hc.cnt
  obtain ⟨r1, r2, r3, r4, r5⟩ := h
  have e : ∀ a j, a < w + 11 → A2.1 a j = A.1 a j := fun a j q => ha.1 a j (by omega)
  have e2 : ∀ a j, a < w + 11 → A2.2 a j = A.2 a j := fun a j q => ha.2 a j (by omega)
  refine ⟨r1.same (fun a j _ _ => e a j (by omega)) (fun a j _ _ => hb.1 a j (by omega)), r2.same (fun j => ha.1 _ j (by omega)) (fun j => ha.1 _ j (by omega)) (ha.1 _ _ (by omega)) (hb.1 _ _ (by omega)) (hb.1 _ _ (by omega)) (fun j => hb.1 _ _ (by omega)), r3.same (fun j => e _ _ (by omega)) (e _ _ (by omega)) (fun j => e _ _ (by omega)) (fun j => ha.2 _ _ (by omega)) (fun j _ _ _ => hb.1 _ _ (by omega)) (fun j => hb.2 _ _ (by omega)), fun u hu => ?_, fun o ho => ?_⟩
  · rw [e w 2 (by omega)] at hu
    by_cases hq : u = t
    · rw [hq, ← hs]; exact hS
    · exact (r4 u hu).away (by omega) (hc.st hu) (fun a j _ _ => ha.1 a j (by omega)) (fun a j _ _ => ha.2 a j (by omega)) (fun a _ _ => hb.1 a _ (by omega)) (fun a j _ _ _ _ => hb.1 a j (by omega)) (fun j _ => hb.1 _ j (by omega)) (fun j _ => hb.2 _ j (by omega))
  · exact (r5 o ho).away (hc.2.1.2.2 o ho) (fun a _ _ => e a _ (by omega)) (fun i _ => e _ _ (by omega)) (fun i _ => e2 _ _ (by omega)) (fun a _ _ _ => hb.1 a _ (by omega)) (fun i _ => hb.1 _ _ (by omega)) (fun i _ => hb.2 _ _ (by omega))
theorem Rel.frame {t k f m : Nat} (h : Rel w A B) (hc : COk w A) (ht : t < A.1 w 2) (hk : k < A.1 (w + 11 + 25 * t) 3) (hf : f = w + 11 + 25 * t + 5 + 4 * k) (hm : m = 5 * t + k) (ha : AgF f A A2) (hb : MAg m B B2) (hF : RelF f m A2 B2) : Rel w A2 B2 := by
  have hS := hc.st ht
  have hk5 := hS.2.1
  refine h.strand hc ht rfl (ha.s (by omega) (by omega)) (hb.s hm (by omega)) ?_
  obtain ⟨q1, q2, q3, q4, q5⟩ := h.2.2.2.1 t ht
  have es : ∀ j, A2.1 (w + 11 + 25 * t) j = A.1 (w + 11 + 25 * t) j := fun j => ha.1 _ j (by omega) (by omega)
  unfold RelS
  rw [es, es, es, hb.1 199 t (by omega), hb.1 200 t (by omega), hb.1 201 t (by omega)]
  have hc3 := hc.cnt
  refine ⟨q1, q2, q3, fun q => ?_, fun i hi => ?_⟩
  · rw [hb.1 206 _ (by omega), hb.2 207 _ (by omega), ha.1 _ _ (by omega) (by omega), ha.2 _ _ (by omega)]
    exact q4 q
  · by_cases hq : i = k
    · rw [hq, ← hm, ← hf]; exact hF
    · exact (q5 i hi).away (hS.2.2.2.2.2.2 i hi).2.2.1 (fun j => ha.1 _ j (by omega) (by omega)) (fun j => ha.1 _ j (by omega) (by omega)) (fun j => ha.2 _ j (by omega)) (fun a _ _ => hb.1 a _ (by omega)) (fun j _ _ => hb.1 _ j (by omega)) (fun j _ _ => hb.2 _ j (by omega))
-- the frame's own changes
def mPush (B : xQ) (m s : Nat) (n : Int64) : xQ := mSet (xsI B 205 m (B.1 205 m + 1)) (10 * m + 4 + B.1 205 m) s n
theorem RelF.push {f m k : Nat} {v : Int64} (h : RelF f m A B) (h6 : A.1 f 3 < 6) : RelF f m (xpu A f k v) (mPush B m k v) ∧ MAg m B (mPush B m k v) := by
  obtain ⟨q1, q2, q3, q4, q5⟩ := h
  obtain ⟨e1, e2, e3, e4, e5, e6⟩ := xpu_r A f k v
  refine ⟨?_, (MAg.refl m B).d.c (by omega) (by omega)⟩
  unfold RelF mPush
  rw [e1, e2, e3, e4, e5, if_neg (by omega), if_neg (by omega)]
  refine ⟨?_, ?_, ?_, ?_, fun c hc => ?_⟩
  · rw [mSet_1 (by omega), xsI_ne (by omega)]; exact q1
  · rw [mSet_1 (by omega), xsI_ne (by omega)]; exact q2
  · rw [mSet_1 (by omega), xsI_eq, q3]
  · rw [mSet_1 (by omega), xsI_ne (by omega)]; exact q4
  · rw [e4, e5]
    by_cases hq : c = 4 + A.1 f 3
    · rw [if_pos (by omega), if_pos (by omega), hq, q3, ← Nat.add_assoc]
      exact ⟨mSet_1e, mSet_2e⟩
    · rw [if_neg (by omega), if_neg (by omega), mSet_1 (by omega), mSet_2 (by omega), xsI_ne (by omega)]
      exact q5 c (by omega)
theorem RelF.size {f m n : Nat} (h : RelF f m A B) (hn : n ≤ A.1 f 3) : RelF f m (xsI A f 3 n) (xsI B 205 m n) := by
  obtain ⟨q1, q2, q3, q4, q5⟩ := h
  unfold RelF
  have a1 : ∀ a j, (a ≠ f ∨ j ≠ 3) → (xsI A f 3 n).1 a j = A.1 a j := fun a j h => xsI_ne h
  have a3 : (xsI A f 3 n).1 f 3 = n := xsI_eq
  have b1 : ∀ a j, a ≠ 205 → (xsI B 205 m n).1 a j = B.1 a j := fun a j h => xsI_ne (Or.inl h)
  have b3 : (xsI B 205 m n).1 205 m = n := xsI_eq
  rw [b1 202 _ (by omega), b1 203 _ (by omega), b1 204 _ (by omega), b3, a3, a1 f 1 (by omega), a1 f 2 (by omega), a1 (f + 2) 0 (by omega)]
  refine ⟨q1, q2, rfl, q4, fun c hc => ?_⟩
  rw [b1 _ _ (by omega), a1 _ _ (by omega)]
  exact q5 c (by omega)
theorem RelF.place {f m p : Nat} (h : RelF f m A B) : RelF f m (xsI A f 2 p) (xsI B 203 m p) := by
  obtain ⟨q1, q2, q3, q4, q5⟩ := h
  unfold RelF
  have a1 : ∀ a j, (a ≠ f ∨ j ≠ 2) → (xsI A f 2 p).1 a j = A.1 a j := fun a j h => xsI_ne h
  have a3 : (xsI A f 2 p).1 f 2 = p := xsI_eq
  have b1 : ∀ a j, a ≠ 203 → (xsI B 203 m p).1 a j = B.1 a j := fun a j h => xsI_ne (Or.inl h)
  have b3 : (xsI B 203 m p).1 203 m = p := xsI_eq
  rw [b1 202 _ (by omega), b1 205 _ (by omega), b1 204 _ (by omega), b3, a3, a1 f 1 (by omega), a1 f 3 (by omega), a1 (f + 2) 0 (by omega)]
  refine ⟨q1, rfl, q3, q4, fun c hc => ?_⟩
  rw [b1 _ _ (by omega), a1 _ _ (by omega)]
  exact q5 c hc
theorem RelF.cell {f m c k : Nat} {v : Int64} (h : RelF f m A B) : RelF f m (xsJ (xsI A (f + 2) (1 + c) k) (f + 3) (1 + c) v) (mSet B (10 * m + c) k v) := by
  obtain ⟨q1, q2, q3, q4, q5⟩ := h
  obtain ⟨e1, e2, e3, e4⟩ := cell_r A f (1 + c) k v
  unfold RelF
  rw [e1, e1, e1, e2, e3, if_neg (by omega), if_neg (by omega), mSet_1 (by omega), mSet_1 (by omega), mSet_1 (by omega), mSet_1 (by omega)]
  refine ⟨q1, q2, q3, q4, fun i hi => ?_⟩
  rw [e2, e3]
  by_cases hq : i = c
  · rw [if_pos (by omega), if_pos (by omega), hq]
    exact ⟨mSet_1e, mSet_2e⟩
  · rw [if_neg (by omega), if_neg (by omega), mSet_1 (by omega), mSet_2 (by omega)]
    exact q5 i hi
end RL
