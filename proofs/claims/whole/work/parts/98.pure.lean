theorem xpure {L : Nat} {xs : Nat → Int32} (hL : L ≤ 2560) : ∃ (n : Nat) (S1 : xS), xlev L xs n 0 [(0, .ref 1000003)] [] 0 0 xS0 = some (.inr (some (.int 1)), S1) := by
  sorry
