theorem xpure {L : Nat} {xs : Nat → Int32} (hL : L ≤ 2560) : ∃ (n : Nat) (S1 : xS), xlev L xs n 0 [(0, .ref 1000003)] [] 0 0 xS0 = some (.inr (some (.int 1)), S1) := by
  have h : xPL L xs 0 [(0, .ref 1000003)] [] 0 0 xS0 (fun r => ∃ S1, r = (.inr (some (.int 1)), S1)) := law_first (fun c q hc hq => by
    have e : kS3 = xm (xz kS3) (xt kS3) (xr kS3) (qA kS3) := xm_any kS3
    rw [e]
    have hz : xz kS3 ≤ 300 + 0 := by
      show xz kS2 + 1 ≤ 300 + 0
      rw [kz2]
      decide
    exact law_loop hL 513 0 (xz kS3) (xr kS3) 12 (qA kS3) c q (by omega) kInv0 hz (by omega) (by omega) (by omega))
  obtain ⟨r, ⟨n, hn⟩, S1, hr⟩ := h
  rw [hr] at hn
  exact ⟨n, S1, hn⟩
