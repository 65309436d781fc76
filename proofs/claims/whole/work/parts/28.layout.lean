-- WHERE THINGS LIE: what is at which address, which reference leads where (printed by wip/gen/layout.py out of a run of the constructors)
def xT0l : List xT := [.inl 0, .inl 6, .inr (0, 6), .inr (0, 6), .inr (0, 180), .inr (0, 180), .inr (0, 180), .inr (0, 6), .inr (0, 18), .inr (0, 18), .inr (0, 18), .inl 2, .inl 9, .inr (3, 3), .inl 4, .inr (0, 24), .inr (0, 24), .inr (0, 24), .inl 1, .inr (0, 72), .inr (1, 72), .inr (0, 24), .inr (0, 24), .inl 8, .inr (4, 5), .inl 1, .inr (0, 1), .inr (1, 1), .inl 3, .inl 1, .inr (0, 11), .inr (1, 11), .inl 3, .inl 1, .inr (0, 11), .inr (1, 11), .inl 3, .inl 1, .inr (0, 11), .inr (1, 11), .inl 3, .inl 1, .inr (0, 11), .inr (1, 11), .inl 3, .inl 1, .inr (0, 11), .inr (1, 11), .inl 8, .inr (4, 5), .inl 1, .inr (0, 1), .inr (1, 1), .inl 3, .inl 1, .inr (0, 11), .inr (1, 11), .inl 3, .inl 1, .inr (0, 11), .inr (1, 11), .inl 3, .inl 1, .inr (0, 11), .inr (1, 11), .inl 3, .inl 1, .inr (0, 11), .inr (1, 11), .inl 3, .inl 1, .inr (0, 11), .inr (1, 11), .inl 8, .inr (4, 5), .inl 1, .inr (0, 1), .inr (1, 1), .inl 3, .inl 1, .inr (0, 11), .inr (1, 11), .inl 3, .inl 1, .inr (0, 11), .inr (1, 11), .inl 3, .inl 1, .inr (0, 11), .inr (1, 11), .inl 3, .inl 1, .inr (0, 11), .inr (1, 11), .inl 3, .inl 1, .inr (0, 11), .inr (1, 11), .inr (1, 40), .inl 5, .inr (0, 2400), .inl 10, .inl 7, .inl 9, .inr (3, 3), .inl 4, .inr (0, 24), .inr (0, 24), .inr (0, 24), .inl 1, .inr (0, 72), .inr (1, 72), .inr (0, 24), .inr (0, 24), .inl 8, .inr (4, 5), .inl 1, .inr (0, 1), .inr (1, 1), .inl 3, .inl 1, .inr (0, 11), .inr (1, 11), .inl 3, .inl 1, .inr (0, 11), .inr (1, 11), .inl 3, .inl 1, .inr (0, 11), .inr (1, 11), .inl 3, .inl 1, .inr (0, 11), .inr (1, 11), .inl 3, .inl 1, .inr (0, 11), .inr (1, 11), .inl 8, .inr (4, 5), .inl 1, .inr (0, 1), .inr (1, 1), .inl 3, .inl 1, .inr (0, 11), .inr (1, 11), .inl 3, .inl 1, .inr (0, 11), .inr (1, 11), .inl 3, .inl 1, .inr (0, 11), .inr (1, 11), .inl 3, .inl 1, .inr (0, 11), .inr (1, 11), .inl 3, .inl 1, .inr (0, 11), .inr (1, 11), .inl 8, .inr (4, 5), .inl 1, .inr (0, 1), .inr (1, 1), .inl 3, .inl 1, .inr (0, 11), .inr (1, 11), .inl 3, .inl 1, .inr (0, 11), .inr (1, 11), .inl 3, .inl 1, .inr (0, 11), .inr (1, 11), .inl 3, .inl 1, .inr (0, 11), .inr (1, 11), .inl 3, .inl 1, .inr (0, 11), .inr (1, 11), .inl 11, .inr (0, 6), .inr (0, 6), .inr (0, 6), .inr (0, 180), .inr (0, 180), .inr (0, 180), .inr (0, 18), .inr (0, 18), .inr (0, 18), .inr (0, 3), .inr (0, 3), .inr (0, 3), .inr (0, 15), .inr (0, 15), .inr (0, 15), .inr (0, 15), .inr (0, 240), .inr (1, 240), .inr (2, 24), .inr (2, 24), .inr (0, 24), .inr (0, 24), .inr (0, 24), .inr (1, 40), .inr (0, 2400), .inr (0, 24), .inr (0, 24), .inr (0, 3), .inr (0, 3), .inr (0, 3), .inr (0, 15), .inr (0, 15), .inr (0, 15), .inr (0, 15), .inr (0, 240), .inr (0, 24), .inr (0, 24), .inr (0, 24), .inr (1, 240), .inr (1, 1)]
def xR0l : List (List (Option Nat)) := [[some 1, some 11, some 99, some 101, some 102, none], [some 2, some 3, some 4, some 5, some 6, some 7, some 8, some 9, some 10], [], [], [], [], [], [], [], [], [], [some 1, none, some 98, none, none], [some 13, some 14, none, none, none], [some 23, some 48, some 73], [some 15, some 16, some 17, some 18, none, some 21, some 22, none], [], [], [], [some 19, some 20], [], [], [], [], [some 24, some 25, none, none, none], [some 28, some 32, some 36, some 40, some 44], [some 26, some 27], [], [], [some 29, none, none, none], [some 30, some 31], [], [], [some 33, none, none, none], [some 34, some 35], [], [], [some 37, none, none, none], [some 38, some 39], [], [], [some 41, none, none, none], [some 42, some 43], [], [], [some 45, none, none, none], [some 46, some 47], [], [], [some 49, some 50, none, none, none], [some 53, some 57, some 61, some 65, some 69], [some 51, some 52], [], [], [some 54, none, none, none], [some 55, some 56], [], [], [some 58, none, none, none], [some 59, some 60], [], [], [some 62, none, none, none], [some 63, some 64], [], [], [some 66, none, none, none], [some 67, some 68], [], [], [some 70, none, none, none], [some 71, some 72], [], [], [some 74, some 75, none, none, none], [some 78, some 82, some 86, some 90, some 94], [some 76, some 77], [], [], [some 79, none, none, none], [some 80, some 81], [], [], [some 83, none, none, none], [some 84, some 85], [], [], [some 87, none, none, none], [some 88, some 89], [], [], [some 91, none, none, none], [some 92, some 93], [], [], [some 95, none, none, none], [some 96, some 97], [], [], [], [some 100, none], [], [some 99], [some 99, none, none, none, none, none], [some 104, some 105, none, none, none], [some 114, some 139, some 164], [some 106, some 107, some 108, some 109, none, some 112, some 113, none], [], [], [], [some 110, some 111], [], [], [], [], [some 115, some 116, none, none, none], [some 119, some 123, some 127, some 131, some 135], [some 117, some 118], [], [], [some 120, none, none, none], [some 121, some 122], [], [], [some 124, none, none, none], [some 125, some 126], [], [], [some 128, none, none, none], [some 129, some 130], [], [], [some 132, none, none, none], [some 133, some 134], [], [], [some 136, none, none, none], [some 137, some 138], [], [], [some 140, some 141, none, none, none], [some 144, some 148, some 152, some 156, some 160], [some 142, some 143], [], [], [some 145, none, none, none], [some 146, some 147], [], [], [some 149, none, none, none], [some 150, some 151], [], [], [some 153, none, none, none], [some 154, some 155], [], [], [some 157, none, none, none], [some 158, some 159], [], [], [some 161, none, none, none], [some 162, some 163], [], [], [some 165, some 166, none, none, none], [some 169, some 173, some 177, some 181, some 185], [some 167, some 168], [], [], [some 170, none, none, none], [some 171, some 172], [], [], [some 174, none, none, none], [some 175, some 176], [], [], [some 178, none, none, none], [some 179, some 180], [], [], [some 182, none, none, none], [some 183, some 184], [], [], [some 186, none, none, none], [some 187, some 188], [], [], [some 190, some 191, some 192, some 193, some 194, some 195, some 196, some 197, some 198, none, none, none, none, none, none, none, none, some 199, some 200, some 201, some 202, some 203, some 204, some 205, some 206, some 207, some 208, some 209, some 210, some 211, some 212, some 213, some 214, some 215, some 216, none, none, none, none, none, none, some 217, some 218, some 219, some 220, some 221, some 222, some 223, some 224, some 225, some 226, some 227, some 228, none, none], [], [], [], [], [], [], [], [], [], [], [], [], [], [], [], [], [], [], [], [], [], [], [], [], [], [], [], [], [], [], [], [], [], [], [], [], [], [], [], []]
def xR0 (a k : Nat) : Option Nat := match xR0l[a]? with
  | some l => (match l[k]? with
    | some r => r
    | none => none)
  | none => none
/-- the layout: b is where the engine's world lies -/
def xLay (T : Nat → Option xT) (R : Nat → Nat → Option Nat) (b : Nat) : Prop := (b = 12 ∨ b = 103) ∧ (∀ a t, xT0l[a]? = some t → T a = some t) ∧ (∀ j, j < 3 → T (1000000 + j) = none) ∧ (∀ a k r, xR0 a k = some r → R a k = some r) ∧ R 0 5 = some (115 - b) ∧ R 11 1 = some b
theorem xLay.t {T : Nat → Option xT} {R : Nat → Nat → Option Nat} {b a : Nat} {t : xT} (h : xLay T R b) (ha : xT0l[a]? = some t) : T a = some t := h.2.1 a t ha
theorem xLay.r {T : Nat → Option xT} {R : Nat → Nat → Option Nat} {b a k r : Nat} (h : xLay T R b) (ha : xR0 a k = some r) : R a k = some r := h.2.2.2.1 a k r ha
/-- a row of cells -/
def xC0 (T : Nat → Option xT) (R : Nat → Nat → Option Nat) (a ka na n : Nat) : Prop := T a = some (.inl 1) ∧ R a 0 = some ka ∧ R a 1 = some na ∧ T ka = some (.inr (0, n)) ∧ T na = some (.inr (1, n))
def xF0 (T : Nat → Option xT) (R : Nat → Nat → Option Nat) (f : Nat) : Prop := T f = some (.inl 3) ∧ R f 0 = some (f + 1) ∧ xC0 T R (f + 1) (f + 2) (f + 3) 11
def xSt0 (T : Nat → Option xT) (R : Nat → Nat → Option Nat) (s : Nat) : Prop := T s = some (.inl 8) ∧ R s 0 = some (s + 1) ∧ T (s + 1) = some (.inr (4, 5)) ∧ R s 1 = some (s + 2) ∧ xC0 T R (s + 2) (s + 3) (s + 4) 1 ∧ ∀ k, k < 5 → R (s + 1) k = some (s + 5 + 4 * k) ∧ xF0 T R (s + 5 + 4 * k)
def xH0 (T : Nat → Option xT) (R : Nat → Nat → Option Nat) (w : Nat) : Prop := T (w + 2) = some (.inl 4) ∧ R (w + 2) 0 = some (w + 3) ∧ R (w + 2) 1 = some (w + 4) ∧ R (w + 2) 2 = some (w + 5) ∧ R (w + 2) 3 = some (w + 6) ∧ R (w + 2) 5 = some (w + 9) ∧ R (w + 2) 6 = some (w + 10) ∧ T (w + 3) = some (.inr (0, 24)) ∧ T (w + 4) = some (.inr (0, 24)) ∧ T (w + 5) = some (.inr (0, 24)) ∧ T (w + 9) = some (.inr (0, 24)) ∧ T (w + 10) = some (.inr (0, 24)) ∧ xC0 T R (w + 6) (w + 7) (w + 8) 72
def xW0 (T : Nat → Option xT) (R : Nat → Nat → Option Nat) (w : Nat) : Prop := T w = some (.inl 9) ∧ R w 0 = some (w + 1) ∧ R w 1 = some (w + 2) ∧ T (w + 1) = some (.inr (3, 3)) ∧ xH0 T R w ∧ ∀ t, t < 3 → R (w + 1) t = some (w + 11 + 25 * t) ∧ xSt0 T R (w + 11 + 25 * t)
def xf_C0 (a ka na n : Nat) : Bool := decide (xT0l[a]? = some (.inl 1)) && decide (xR0 a 0 = some ka) && decide (xR0 a 1 = some na) && decide (xT0l[ka]? = some (.inr (0, n))) && decide (xT0l[na]? = some (.inr (1, n)))
def xf_F0 (f : Nat) : Bool := decide (xT0l[f]? = some (.inl 3)) && decide (xR0 f 0 = some (f + 1)) && xf_C0 (f + 1) (f + 2) (f + 3) 11
def xf_S0 (s : Nat) : Bool := decide (xT0l[s]? = some (.inl 8)) && decide (xR0 s 0 = some (s + 1)) && decide (xT0l[s + 1]? = some (.inr (4, 5))) && decide (xR0 s 1 = some (s + 2)) && xf_C0 (s + 2) (s + 3) (s + 4) 1 && (List.range 5).all (fun k => decide (xR0 (s + 1) k = some (s + 5 + 4 * k)) && xf_F0 (s + 5 + 4 * k))
def xf_W0 (w : Nat) : Bool := decide (xT0l[w]? = some (.inl 9)) && decide (xR0 w 0 = some (w + 1)) && decide (xR0 w 1 = some (w + 2)) && decide (xT0l[w + 1]? = some (.inr (3, 3))) && (List.range 3).all (fun t => decide (xR0 (w + 1) t = some (w + 11 + 25 * t)) && xf_S0 (w + 11 + 25 * t))
def xf_H0 (w : Nat) : Bool := decide (xT0l[w + 2]? = some (.inl 4)) && decide (xR0 (w + 2) 0 = some (w + 3)) && decide (xR0 (w + 2) 1 = some (w + 4)) && decide (xR0 (w + 2) 2 = some (w + 5)) && decide (xR0 (w + 2) 3 = some (w + 6)) && decide (xR0 (w + 2) 5 = some (w + 9)) && decide (xR0 (w + 2) 6 = some (w + 10)) && decide (xT0l[w + 3]? = some (.inr (0, 24))) && decide (xT0l[w + 4]? = some (.inr (0, 24))) && decide (xT0l[w + 5]? = some (.inr (0, 24))) && decide (xT0l[w + 9]? = some (.inr (0, 24))) && decide (xT0l[w + 10]? = some (.inr (0, 24))) && xf_C0 (w + 6) (w + 7) (w + 8) 72
theorem xf_W0_ok : (xf_W0 12 && xf_H0 12 && (xf_W0 103 && xf_H0 103)) = true := by decide +kernel
section LY
variable {T : Nat → Option xT} {R : Nat → Nat → Option Nat} {b : Nat}
theorem xLay.c {a ka na n : Nat} (h : xLay T R b) (hc : xf_C0 a ka na n = true) : xC0 T R a ka na n := by
  unfold xf_C0 at hc
  simp only [Bool.and_eq_true, decide_eq_true_eq] at hc
  obtain ⟨⟨⟨⟨q1, q2⟩, q3⟩, q4⟩, q5⟩ := hc
  exact ⟨h.t q1, h.r q2, h.r q3, h.t q4, h.t q5⟩
theorem xLay.f {f : Nat} (h : xLay T R b) (hc : xf_F0 f = true) : xF0 T R f := by
  unfold xf_F0 at hc
  simp only [Bool.and_eq_true, decide_eq_true_eq] at hc
  exact ⟨h.t hc.1.1, h.r hc.1.2, h.c hc.2⟩
theorem xLay.s {s : Nat} (h : xLay T R b) (hc : xf_S0 s = true) : xSt0 T R s := by
  unfold xf_S0 at hc
  simp only [Bool.and_eq_true, decide_eq_true_eq] at hc
  obtain ⟨⟨⟨⟨⟨q1, q2⟩, q3⟩, q4⟩, q5⟩, q6⟩ := hc
  refine ⟨h.t q1, h.r q2, h.t q3, h.r q4, h.c q5, fun k hk => ?_⟩
  have q7 := List.all_eq_true.mp q6 k (List.mem_range.mpr hk)
  simp only [Bool.and_eq_true, decide_eq_true_eq] at q7
  exact ⟨h.r q7.1, h.f q7.2⟩
theorem xLay.hp {s : Nat} (h : xLay T R b) (hc : xf_H0 s = true) : xH0 T R s := by
  unfold xf_H0 at hc
  simp only [Bool.and_eq_true, decide_eq_true_eq] at hc
  obtain ⟨⟨⟨⟨⟨⟨⟨⟨⟨⟨⟨⟨q1, q2⟩, q3⟩, q4⟩, q5⟩, q6⟩, q7⟩, q8⟩, q9⟩, q10⟩, q11⟩, q12⟩, q13⟩ := hc
  exact ⟨h.t q1, h.r q2, h.r q3, h.r q4, h.r q5, h.r q6, h.r q7, h.t q8, h.t q9, h.t q10, h.t q11, h.t q12, h.c q13⟩
theorem xLay.w0 {w : Nat} (h : xLay T R b) (hc : xf_W0 w = true) (hh : xf_H0 w = true) : xW0 T R w := by
  unfold xf_W0 at hc
  simp only [Bool.and_eq_true, decide_eq_true_eq] at hc
  obtain ⟨⟨⟨⟨q1, q2⟩, q3⟩, q4⟩, q6⟩ := hc
  refine ⟨h.t q1, h.r q2, h.r q3, h.t q4, h.hp hh, fun k hk => ?_⟩
  have q7 := List.all_eq_true.mp q6 k (List.mem_range.mpr hk)
  simp only [Bool.and_eq_true, decide_eq_true_eq] at q7
  exact ⟨h.r q7.1, h.s q7.2⟩
theorem xLay.w {w : Nat} (h : xLay T R b) (hw : w = 12 ∨ w = 103) : xW0 T R w := by
  have h1 := xf_W0_ok
  simp only [Bool.and_eq_true] at h1
  rcases hw with rfl | rfl
  · exact h.w0 h1.1.1 h1.1.2
  · exact h.w0 h1.2.1 h1.2.2
end LY
theorem xF_eq {y : Nat} {as : List Value} {S : xS} {X : xR} (h : ∃ r, xF y as S r ∧ r = X) : xF y as S X := by
  obtain ⟨r, h1, rfl⟩ := h
  exact h1
theorem nI_inc (m : Nat) : nI m + Int32.ofInt 1 = nI (m + 1) := nI_1 m
theorem nI_inc5 (m : Nat) : nI m + Int32.ofInt 5 = nI (m + 5) := nI_add m 5
theorem nI_dec {m : Nat} (h : 1 ≤ m) : nI m + Int32.ofInt (-1) = nI (m - 1) := by
  rw [← nI_sub h]
  show nI m + (-1) = nI m - 1
  rw [Int32.sub_eq_add_neg]
theorem xrcv1 {y2 : Nat} {z : Nat} {T : Nat → Option xT} {R : Nat → Nat → Option Nat} {A : xQ} {a : Nat} {as : List Value} (hk : xc_kind y2 = 1) (ht : T a = some (.inl (xc_yc y2))) : xrcv y2 (xm z T R A) (.ref a :: as) = true := by
  have h1 : xt (xm z T R A) a = some (.inl (xc_yc y2)) := ht
  simp [xrcv, hk, h1]
theorem xrcv0 {y2 : Nat} (hk : xc_kind y2 = 0) (S : xS) (as : List Value) : xrcv y2 S as = true := by
  unfold xrcv
  split <;> simp [hk]
