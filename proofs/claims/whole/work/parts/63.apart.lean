-- CLASS AND REFERENCE DO NOT TOUCH EACH OTHER
def dC (a : Nat) : Prop := a ≤ 188 ∨ (1000000 ≤ a ∧ a < 1000003)
def dM (a : Nat) : Prop := (189 ≤ a ∧ a ≤ 228) ∨ (1000000 ≤ a ∧ a < 1000003)
def yC (y : Nat) : Bool := decide (y < 111) && !(decide (xc_kind y = 2))
def yM (y : Nat) : Bool := decide (111 ≤ y) && decide (y < 173)
/-- the reference's methods that leave thrown as it is -/
def yT (y : Nat) : Bool := yM y && !(decide (y ∈ [113, 114, 117, 118, 127, 148, 149, 150, 151, 159, 168, 169, 170, 171, 172]))
def pC (ci _f : Nat) : Bool := decide (ci < 11)
def pM (ci _f : Nat) : Bool := decide (ci = 11)
def pT (ci f : Nat) : Bool := decide (ci = 11) && !(decide (f = 14))
theorem wC_all : (List.range 173).all (fun y => !(yC y) || wY yC pC y) = true := by decide +kernel
theorem wM_all : (List.range 173).all (fun y => !(yM y) || wY yM pM y) = true := by decide +kernel
theorem wT_all : (List.range 173).all (fun y => !(yT y) || wY yT pT y) = true := by decide +kernel
theorem w_of {Yb : Nat → Bool} {pf : Nat → Nat → Bool} (hl : ∀ y, Yb y = true → y < 173) (h : (List.range 173).all (fun y => !(Yb y) || wY Yb pf y) = true) : wAll Yb pf := by
  intro y hy
  have h1 := List.all_eq_true.mp h y (List.mem_range.mpr (hl y hy))
  rw [hy] at h1
  exact ⟨hl y hy, by simpa using h1⟩
theorem wC_ok : wAll yC pC := w_of (fun y h => by unfold yC at h; simp only [Bool.and_eq_true, decide_eq_true_eq] at h; omega) wC_all
theorem yM_lt {y : Nat} (h : yM y = true) : y < 173 := by
  unfold yM at h
  simp only [Bool.and_eq_true, decide_eq_true_eq] at h
  exact h.2
theorem wM_ok : wAll yM pM := w_of (fun y h => yM_lt h) wM_all
theorem wT_ok : wAll yT pT := w_of (fun y h => by unfold yT at h; simp only [Bool.and_eq_true] at h; exact yM_lt h.1) wT_all
/-- where the references lead, by the layout -/
def lay_ck (lo hi a : Nat) : Bool := match xT0l[a]? with
  | some (.inl ci) => (List.range (xc_fk ci).length).all (fun k => !(decide ((xc_fk ci).getD k 0 = 2)) || (decide (a = 0 ∧ k = 5) || decide (a = 11 ∧ k = 1) || decide (a = 102 ∧ k = 1)) || (match xR0 a k with
    | some r => decide (lo ≤ r ∧ r ≤ hi)
    | none => false))
  | some (.inr (j, n)) => decide (j < 3) || (List.range n).all (fun k => match xR0 a k with
    | some r => decide (lo ≤ r ∧ r ≤ hi)
    | none => false)
  | none => false
theorem lay_c : (List.range 189).all (fun a => lay_ck 0 188 a) = true := by decide +kernel
theorem lay_m : (List.range 40).all (fun a => lay_ck 189 228 (189 + a)) = true := by decide +kernel
theorem gM0 : gS dM [.ref 189] := ⟨Or.inl ⟨by omega, by omega⟩, trivial⟩
theorem gC0 : gS dC [.ref 0] := ⟨Or.inl (by omega), trivial⟩
theorem gM1 {a : Int32} : gS dM [.ref 189, .int a] := ⟨Or.inl ⟨by omega, by omega⟩, trivial, trivial⟩
theorem gC1 {a : Int32} : gS dC [.ref 0, .int a] := ⟨Or.inl (by omega), trivial, trivial⟩
theorem gM2 {a b : Int32} : gS dM [.ref 189, .int a, .int b] := ⟨Or.inl ⟨by omega, by omega⟩, trivial, trivial, trivial⟩
theorem gC2 {a b : Int32} : gS dC [.ref 0, .int a, .int b] := ⟨Or.inl (by omega), trivial, trivial, trivial⟩
theorem gM3 {a b c : Int32} : gS dM [.ref 189, .int a, .int b, .int c] := ⟨Or.inl ⟨by omega, by omega⟩, trivial, trivial, trivial, trivial⟩
theorem gC3 {a b c : Int32} : gS dC [.ref 0, .int a, .int b, .int c] := ⟨Or.inl (by omega), trivial, trivial, trivial, trivial⟩
theorem gM4 {a b c d : Int32} : gS dM [.ref 189, .int a, .int b, .int c, .int d] := ⟨Or.inl ⟨by omega, by omega⟩, trivial, trivial, trivial, trivial, trivial⟩
theorem gC4 {a b c d : Int32} : gS dC [.ref 0, .int a, .int b, .int c, .int d] := ⟨Or.inl (by omega), trivial, trivial, trivial, trivial, trivial⟩
section LC
variable {T : Nat → Option xT} {R : Nat → Nat → Option Nat} {w lo hi : Nat}
theorem lay_to {a k b : Nat} (hL : xLay T R w) (hck : lay_ck lo hi a = true) (hi1 : inb (T a) k) (hb : R a k = some b) : (lo ≤ b ∧ b ≤ hi) ∨ (a = 0 ∧ k = 5) ∨ (a = 11 ∧ k = 1) ∨ (a = 102 ∧ k = 1) := by
  unfold lay_ck at hck
  split at hck
  · next ci ht =>
    rw [hL.t ht] at hi1
    have hk2 : (xc_fk ci).getD k 0 = 2 := hi1
    have hlt : k < (xc_fk ci).length := by
      by_cases q : k < (xc_fk ci).length
      · exact q
      · simp only [List.getD_eq_getElem?_getD] at hk2
        rw [List.getElem?_eq_none (by omega)] at hk2
        cases hk2
    have h1 := List.all_eq_true.mp hck k (List.mem_range.mpr hlt)
    simp only [hk2, decide_true, Bool.not_true, Bool.false_or, Bool.or_eq_true, decide_eq_true_eq] at h1
    rcases h1 with ((h1 | h1) | h1) | h1
    · exact Or.inr (Or.inl h1)
    · exact Or.inr (Or.inr (Or.inl h1))
    · exact Or.inr (Or.inr (Or.inr h1))
    · split at h1
      · next r hr =>
        rw [hL.r hr] at hb
        cases hb
        exact Or.inl (by simpa using h1)
      · cases h1
  · next j n ht =>
    rw [hL.t ht] at hi1
    have hi2 : 3 ≤ j ∧ k < n := hi1
    simp only [Bool.or_eq_true, decide_eq_true_eq] at hck
    rcases hck with h1 | h1
    · omega
    · have h2 := List.all_eq_true.mp h1 k (List.mem_range.mpr hi2.2)
      split at h2
      · next r hr =>
        rw [hL.r hr] at hb
        cases hb
        exact Or.inl (by simpa using h2)
      · cases h2
  · cases hck
theorem inb_st {k v : Nat} (hL : xLay T R w) (hv : 1000000 ≤ v) (hv2 : v < 1000003) (h : inb (T v) k) : False := by
  have e : v = 1000000 + (v - 1000000) := by omega
  rw [e, hL.2.2.1 _ (by omega)] at h
  exact h
theorem gC_c {z : Nat} {A : xQ} (hL : xLay T R w) (hr : ∀ b, R 102 1 = some b → b ≤ 188) : gC dC (xm z T R A) := by
  intro a k b ha hi hb
  rcases ha with ha | ha
  · have hck := List.all_eq_true.mp lay_c a (List.mem_range.mpr (by omega))
    have h0 := hL.1
    rcases lay_to hL hck hi hb with h | ⟨rfl, rfl⟩ | ⟨rfl, rfl⟩ | ⟨rfl, rfl⟩
    · exact Or.inl h.2
    · have e : R 0 5 = some b := hb
      rw [hL.2.2.2.2.1] at e
      cases e
      exact Or.inl (by omega)
    · have e : R 11 1 = some b := hb
      rw [hL.2.2.2.2.2] at e
      cases e
      exact Or.inl (by omega)
    · exact Or.inl (hr b hb)
  · exact (inb_st hL ha.1 ha.2 hi).elim
theorem gC_m {z : Nat} {A : xQ} (hL : xLay T R w) : gC dM (xm z T R A) := by
  intro a k b ha hi hb
  rcases ha with ha | ha
  · have hck := List.all_eq_true.mp lay_m (a - 189) (List.mem_range.mpr (by omega))
    rw [show 189 + (a - 189) = a by omega] at hck
    rcases lay_to hL hck hi hb with h | ⟨h, _⟩ | ⟨h, _⟩ | ⟨h, _⟩
    · exact Or.inl h
    · omega
    · omega
    · omega
  · exact (inb_st hL ha.1 ha.2 hi).elim
theorem st_no {a : Nat} {x : xT} (hL : xLay T R w) (hv : 1000000 ≤ a) (hv2 : a < 1000003) (h : T a = some x) : False := by
  have e : a = 1000000 + (a - 1000000) := by omega
  rw [e, hL.2.2.1 _ (by omega)] at h
  cases h
theorem frC {z y : Nat} {A : xQ} {as : List Value} {r : xR} (hL : xLay T R w) (hr : ∀ b, R 102 1 = some b → b ≤ 188) (hy : yC y = true) (hs : gS dC as) (h : xF y as (xm z T R A) r) : (∀ a k, 189 ≤ a → xi r.2 a k = nI (A.1 a k) ∧ xj r.2 a k = A.2 a k) ∧ gC dC r.2 ∧ xt r.2 = T := by
  have hg := xF_fr (D := dC) (N := fun a _ => 189 ≤ a) wC_ok (fun v hv => Or.inr ⟨by omega, by omega⟩) hy hs (gC_c hL hr) (fun a j n k ha ht hn => by
    rcases ha with ha | ha
    · omega
    · exact st_no hL ha.1 ha.2 ht) (fun ci f a _ ha ht hn => by
    rcases ha with ha | ha
    · omega
    · exact st_no hL ha.1 ha.2 ht) h
  exact ⟨fun a k h1 => hg.1 a k h1, hg.2.1, hg.2.2.1⟩
theorem frM {z y : Nat} {A : xQ} {as : List Value} {r : xR} (hL : xLay T R w) (hy : yM y = true) (hs : gS dM as) (h : xF y as (xm z T R A) r) : ∀ a k, a ≤ 188 ∨ a = 229 → xi r.2 a k = nI (A.1 a k) ∧ xj r.2 a k = A.2 a k := by
  have hg := xF_fr (D := dM) (N := fun a _ => a ≤ 188 ∨ a = 229) wM_ok (fun v hv => Or.inr ⟨by omega, by omega⟩) hy hs (gC_m hL) (fun a j n k ha _ hn => by unfold dM at ha; omega) (fun ci f a _ ha _ hn => by unfold dM at ha; omega) h
  exact fun a k h1 => hg.1 a k h1
theorem frT {z y : Nat} {A : xQ} {as : List Value} {r : xR} (hL : xLay T R w) (hy : yT y = true) (hs : gS dM as) (h : xF y as (xm z T R A) r) : xi r.2 189 14 = nI (A.1 189 14) := by
  have hg := xF_fr (D := dM) (N := fun a k => a = 189 ∧ k = 14) wT_ok (fun v hv => Or.inr ⟨by omega, by omega⟩) hy hs (gC_m hL) (fun a j n k ha ht hn => by
    have e : T 189 = some (.inl 11) := hL.t rfl
    have ht2 : T a = some (.inr (j, n)) := ht
    rw [hn.1, e] at ht2
    cases ht2) (fun ci f a hp ha _ hn => by
    unfold pT at hp
    simp only [Bool.and_eq_true, Bool.not_eq_true', decide_eq_false_iff_not] at hp
    exact hp.2 hn.2) h
  exact (hg.1 189 14 ⟨rfl, rfl⟩).1
/-- the class's part from B, the reference's from C -/
def mrg (B C : xQ) : xQ := (fun a k => if a ≤ 188 ∨ a = 229 then B.1 a k else C.1 a k, fun a k => if a ≤ 188 ∨ a = 229 then B.2 a k else C.2 a k)
theorem mrg_lo {B C : xQ} {a k : Nat} (h : a ≤ 188 ∨ a = 229) : (mrg B C).1 a k = B.1 a k ∧ (mrg B C).2 a k = B.2 a k := ⟨if_pos h, if_pos h⟩
theorem mrg_hi {B C : xQ} {a k : Nat} (h : 189 ≤ a ∧ a ≠ 229) : (mrg B C).1 a k = C.1 a k ∧ (mrg B C).2 a k = C.2 a k := ⟨if_neg (by omega), if_neg (by omega)⟩
theorem mrg_x {z : Nat} {B C : xQ} (h : ∀ a k, a ≤ 188 ∨ a = 229 → nI (C.1 a k) = nI (B.1 a k) ∧ C.2 a k = B.2 a k) : xm z T R C = xm z T R (mrg B C) := by
  unfold xm mrg
  congr 3
  · funext a k
    dsimp only
    split
    · rename_i q; exact (h a k q).1
    · rfl
  · congr 1
    funext a k
    dsimp only
    split
    · rename_i q; exact (h a k q).2
    · rfl
/-- a call of the reference leaves the class's part as it is -/
theorem keepM {z y : Nat} {B : xQ} {as : List Value} {v : Option Value} {Q : xQ → Prop} (hL : xLay T R w) (hy : yM y = true) (hs : gS dM as) (h : ∃ B2, xF y as (xm z T R B) (.inr v, xm z T R B2) ∧ Q B2) : ∃ B2, xF y as (xm z T R B) (.inr v, xm z T R (mrg B B2)) ∧ Q B2 := by
  obtain ⟨B2, h1, h2⟩ := h
  have hf := frM hL hy hs h1
  have e : xm z T R B2 = xm z T R (mrg B B2) := mrg_x (fun a k q => hf a k q)
  rw [e] at h1
  exact ⟨B2, h1, h2⟩
/-- a call of the class leaves the reference's part as it is -/
theorem keepC {z z1 y : Nat} {R1 : Nat → Nat → Option Nat} {A A1 : xQ} {as : List Value} {v : Nat ⊕ Option Value} (hL : xLay T R w) (hr : ∀ b, R 102 1 = some b → b = 12 ∨ b = 103) (hy : yC y = true) (hs : gS dC as) (h : xF y as (xm z T R A) (v, xm z1 T R1 A1)) : xF y as (xm z T R A) (v, xm z1 T R1 (mrg A1 A)) := by
  have hf := (frC hL (fun b hb => by have := hr b hb; omega) hy hs h).1
  have e : xm z1 T R1 A1 = xm z1 T R1 (mrg A1 A) := by
    unfold xm mrg
    congr 3
    · funext a k
      dsimp only
      split
      · rfl
      · exact (hf a k (by omega)).1
    · congr 1
      funext a k
      dsimp only
      split
      · rfl
      · exact (hf a k (by omega)).2
  rw [← e]
  exact h
end LC
