-- snapshot: the reference's frames and objects
theorem xit_add (g : Nat → xQ → xQ) : ∀ (m n i : Nat) (C : xQ), xit g (m + n) i C = xit g n (i + m) (xit g m i C) := by
  intro m
  induction m with
  | zero => intro n i C; rw [Nat.zero_add]; rfl
  | succ m ih =>
    intro n i C
    rw [show m + 1 + n = (m + n) + 1 by omega]
    show xit g (m + n) (i + 1) (g i C) = xit g n (i + (m + 1)) (xit g m (i + 1) (g i C))
    rw [ih, show i + 1 + m = i + (m + 1) by omega]
theorem xF_w {y : Nat} {as : List Value} {S : xS} {v : Option Value} {z : Nat} {T : Nat → Option xT} {R : Nat → Nat → Option Nat} {Q : xQ → Prop} {L : List Nat} (h : ∃ r, xF y as S r ∧ ∃ B2, r = (.inr v, xm z T R (wM B2 L)) ∧ Q B2) : ∃ B2, xF y as S (.inr v, xm z T R (wM B2 L)) ∧ Q B2 := by
  obtain ⟨r, h1, B2, h2, h3⟩ := h
  rw [h2] at h1
  exact ⟨B2, h1, h3⟩
theorem m155c {z : Nat} {T : Nat → Option xT} {R : Nat → Nat → Option Nat} {B : xQ} {C B0 F : xQ} {w ka na i : Nat} {l : List Nat} (hL : xLay T R w) (hS : Sr w F C) (hN : NR w C B0 B) (hv : VC w F ka na i) (k1 : ka ≠ w + 9) (k2 : ka ≠ w + 10) (k3 : ka ≠ w + 2) (hx : Ext w (aMeet w ka na i C) F) (hl : l.length + 9 ≤ 2400) : ∃ B2, xF 155 [.ref 189, .int (nI (F.1 ka i)), .long (F.2 na i)] (xm z T R (wM B l)) (.inr none, xm z T R (wM B2 (l ++ vBv (F.1 (w + 9)) (F.1 ka i) (F.2 na i)))) ∧ NR w (aMeet w ka na i C) B0 B2 := by
  have e : aMeet w ka na i C = mtv w (F.1 ka i) (F.2 na i) C := by
    show mtv w (C.1 ka i) (C.2 na i) C = _
    rw [hS.1.k k1 k2 k3, hS.1.1.1]
  rw [e] at hx ⊢
  exact m155 hL hS hN hv.1 (fun q => by obtain ⟨o, h1, h2, h3⟩ := hv.2 q; rw [h2, oN_lN (by omega)]; exact h1) hx hl
def gK (w ka na d : Nat) : Nat → xQ → xQ := fun j B => aMeet w ka na (d + j) B
theorem gK_fd {w ka na d n : Nat} {F : xQ} (hv : ∀ i, i < n → VC w F ka na (d + i)) (k1 : ka ≠ w + 9) (k2 : ka ≠ w + 10) (k3 : ka ≠ w + 2) {m i : Nat} {C : xQ} (hi : i + m ≤ n) (hS : Sr w F C) : Sr w F (xit (gK w ka na d) m i C) ∧ Ext w C (xit (gK w ka na d) m i C) := by
  obtain ⟨q1, q2, q3⟩ := fd_it (w := w) (A0 := F) (n := n) (g := gK w ka na d) (Q := fun c o => Rf F ka na (d + c) o) (fun i A hi hs => meet_fd hs (hv i hi) k1 k2 k3) m i C hi hS
  exact ⟨q1, q2⟩
theorem l156a {z : Nat} {T : Nat → Option xT} {R : Nat → Nat → Option Nat} {w p f : Nat} {F B0 : xQ} {Q : xR → Prop} (hL : xLay T R w) (hS0 : ∀ i, i < 5 + F.1 f 3 → VC w F (f + 2) (f + 3) (0 + i)) (k1 : f + 2 ≠ w + 9) (k2 : f + 2 ≠ w + 10) (k3 : f + 2 ≠ w + 2) (hp : p < 15) (h6 : F.1 f 3 ≤ 6) (hd : B0.1 205 p = F.1 f 3) (hq : ∀ c, c < 4 + F.1 f 3 → B0.1 206 (10 * p + c) = F.1 (f + 2) (1 + c) ∧ B0.2 207 (10 * p + c) = F.2 (f + 3) (1 + c)) : ∀ (m i : Nat) (C B : xQ) (l : List Nat), i + m = 4 → Sr w F C → NR w C B0 B → Ext w (xit (gK w (f + 2) (f + 3) 0) m (1 + i) C) F → l.length + 9 * m ≤ 2400 → (∀ B2, NR w (xit (gK w (f + 2) (f + 3) 0) m (1 + i) C) B0 B2 → xP 156 88 [(0, .ref 189), (1, .int (nI p))] [] 0 0 (xm z T R (wM B2 (l ++ vsB (F.1 (w + 9)) F (f + 2) (f + 3) (1 + i) m))) Q) → xP 156 51 [(0, .ref 189), (1, .int (nI p)), (2, .int (nI i))] [] 0 0 (xm z T R (wM B l)) Q := by
  intro m
  induction m with
  | zero =>
    intro i C B l hi hS hN hx hl hQ
    have hQ2 := hQ B hN
    rw [show vsB (F.1 (w + 9)) F (f + 2) (f + 3) (1 + i) 0 = [] from rfl, List.append_nil] at hQ2
    have r205 : (wM B l).1 205 p = F.1 f 3 := by rw [hN.r _ _ _ (by omega) (by omega) (by omega) (by omega)]; exact hd
    refine xp_iload_n rfl rfl ?_
    refine xp_iconst (n := 4) rfl (by decide) ?_
    refine xp_icge 88 rfl (by decide) (by omega) (by omega) (fun h53 => ?_) (fun h53 => ?_)
    · skip
      refine xp_weak [(0, .ref 189), (1, .int (nI p))] (xle_cons rfl (xle_cons rfl (xle_nil _))) (by simp [xnd]) ?_
      exact hQ2
    · exfalso; omega
  | succ m ih =>
    intro i C B l hi hS hN hx hl hQ
    have r205 : (wM B l).1 205 p = F.1 f 3 := by rw [hN.r _ _ _ (by omega) (by omega) (by omega) (by omega)]; exact hd
    have r206 : (wM B l).1 206 (10 * p + i) = F.1 (f + 2) (0 + (1 + i)) := by rw [hN.r _ _ _ (by omega) (by omega) (by omega) (by omega), Nat.zero_add]; exact (hq i (by omega)).1
    have r207 : (wM B l).2 207 (10 * p + i) = F.2 (f + 3) (0 + (1 + i)) := by rw [show (wM B l).2 = B0.2 from hN.2.2.2.2, Nat.zero_add]; exact (hq i (by omega)).2
    have hm := meet_fd hS (hS0 (1 + i) (by omega)) k1 k2 k3
    have hit := gK_fd hS0 k1 k2 k3 (m := m) (i := 1 + i + 1) (C := gK w (f + 2) (f + 3) 0 (1 + i) C) (by omega) hm.1
    have hx1 : Ext w (aMeet w (f + 2) (f + 3) (0 + (1 + i)) C) F := hit.2.trans hx
    obtain ⟨B2, g1, g2⟩ := m155c (z := z) (l := l) hL hS hN (hS0 (1 + i) (by omega)) k1 k2 k3 hx1 (by omega)
    have hvl := vBv_len (num := F.1 (w + 9)) (k := F.1 (f + 2) (0 + (1 + i))) (v := F.2 (f + 3) (0 + (1 + i)))
    have hih := ih (i + 1) _ B2 (l ++ vBv (F.1 (w + 9)) (F.1 (f + 2) (0 + (1 + i))) (F.2 (f + 3) (0 + (1 + i)))) (by omega) hm.1 g2 hx (by rw [List.length_append]; omega) (fun B3 h3 => by
      have := hQ B3 h3
      rw [show vsB (F.1 (w + 9)) F (f + 2) (f + 3) (1 + i) (m + 1) = vBv (F.1 (w + 9)) (F.1 (f + 2) (0 + (1 + i))) (F.2 (f + 3) (0 + (1 + i))) ++ vsB (F.1 (w + 9)) F (f + 2) (f + 3) (1 + (i + 1)) m by rw [Nat.zero_add]; rfl, ← List.append_assoc] at this
      exact this)
    refine xp_iload_n rfl rfl ?_
    refine xp_iconst (n := 4) rfl (by decide) ?_
    refine xp_icge 88 rfl (by decide) (by omega) (by omega) (fun h53 => ?_) (fun h53 => ?_)
    · exfalso; omega
    · skip
      refine xp_aload_n rfl rfl ?_
      refine xp_aload_n rfl rfl ?_
      refine xp_gfa rfl rfl (by decide) (by decide) (by first | assumption | exact hL.t rfl) (by first | assumption | exact hL.r rfl | exact hL.2.2.2.2.2) ?_
      refine xp_bipush (n := 10) rfl (by decide) ?_
      refine xp_iload_n rfl rfl ?_
      refine xp_imul rfl ?_
      refine xp_iload_n rfl rfl ?_
      refine xp_iadd rfl ?_
      refine xp_iald rfl (by first | assumption | exact hL.t rfl) (by omega) (by omega) ?_
      rw [r206]
      refine xp_aload_n rfl rfl ?_
      refine xp_gfa rfl rfl (by decide) (by decide) (by first | assumption | exact hL.t rfl) (by first | assumption | exact hL.r rfl | exact hL.2.2.2.2.2) ?_
      refine xp_bipush (n := 10) rfl (by decide) ?_
      refine xp_iload_n rfl rfl ?_
      refine xp_imul rfl ?_
      refine xp_iload_n rfl rfl ?_
      refine xp_iadd rfl ?_
      refine xp_lald rfl (by first | assumption | exact hL.t rfl) (by omega) (by omega) ?_
      rw [r207]
      refine xp_iv rfl rfl (Nat.le_of_ble_eq_true rfl) (by decide) (by decide) (by decide) (Nat.le_of_ble_eq_true rfl) rfl (xrcv1 (by decide) (by first | assumption | exact hL.t rfl)) (g1) rfl ?_
      refine xp_iinc rfl rfl (by decide) (nI_inc _) ?_
      refine xp_goto 51 rfl (by decide) ?_
      refine xp_weak [(0, .ref 189), (1, .int (nI p)), (2, .int (nI (i + 1)))] (xle_cons rfl (xle_cons rfl (xle_cons rfl (xle_nil _)))) (by simp [xnd]) ?_
      exact hih
theorem l156b {z : Nat} {T : Nat → Option xT} {R : Nat → Nat → Option Nat} {w p f : Nat} {F B0 : xQ} {Q : xR → Prop} (hL : xLay T R w) (hS0 : ∀ i, i < 5 + F.1 f 3 → VC w F (f + 2) (f + 3) (0 + i)) (k1 : f + 2 ≠ w + 9) (k2 : f + 2 ≠ w + 10) (k3 : f + 2 ≠ w + 2) (hp : p < 15) (h6 : F.1 f 3 ≤ 6) (hd : B0.1 205 p = F.1 f 3) (hq : ∀ c, c < 4 + F.1 f 3 → B0.1 206 (10 * p + c) = F.1 (f + 2) (1 + c) ∧ B0.2 207 (10 * p + c) = F.2 (f + 3) (1 + c)) : ∀ (m i : Nat) (C B : xQ) (l : List Nat), i + m = 4 + F.1 f 3 → Sr w F C → NR w C B0 B → Ext w (xit (gK w (f + 2) (f + 3) 0) m (1 + i) C) F → l.length + 9 * m ≤ 2400 → (∀ B2, NR w (xit (gK w (f + 2) (f + 3) 0) m (1 + i) C) B0 B2 → xP 156 144 [(0, .ref 189), (1, .int (nI p))] [] 0 0 (xm z T R (wM B2 (l ++ vsB (F.1 (w + 9)) F (f + 2) (f + 3) (1 + i) m))) Q) → xP 156 100 [(0, .ref 189), (1, .int (nI p)), (2, .int (nI i))] [] 0 0 (xm z T R (wM B l)) Q := by
  intro m
  induction m with
  | zero =>
    intro i C B l hi hS hN hx hl hQ
    have hQ2 := hQ B hN
    rw [show vsB (F.1 (w + 9)) F (f + 2) (f + 3) (1 + i) 0 = [] from rfl, List.append_nil] at hQ2
    have r205 : (wM B l).1 205 p = F.1 f 3 := by rw [hN.r _ _ _ (by omega) (by omega) (by omega) (by omega)]; exact hd
    refine xp_iload_n rfl rfl ?_
    refine xp_iconst (n := 4) rfl (by decide) ?_
    refine xp_aload_n rfl rfl ?_
    refine xp_gfa rfl rfl (by decide) (by decide) (by first | assumption | exact hL.t rfl) (by first | assumption | exact hL.r rfl | exact hL.2.2.2.2.2) ?_
    refine xp_iload_n rfl rfl ?_
    refine xp_iald rfl (by first | assumption | exact hL.t rfl) (by omega) (by omega) ?_
    rw [r205]
    refine xp_iadd rfl ?_
    refine xp_icge 144 rfl (by decide) (by omega) (by omega) (fun h109 => ?_) (fun h109 => ?_)
    · skip
      refine xp_weak [(0, .ref 189), (1, .int (nI p))] (xle_cons rfl (xle_cons rfl (xle_nil _))) (by simp [xnd]) ?_
      exact hQ2
    · exfalso; omega
  | succ m ih =>
    intro i C B l hi hS hN hx hl hQ
    have r205 : (wM B l).1 205 p = F.1 f 3 := by rw [hN.r _ _ _ (by omega) (by omega) (by omega) (by omega)]; exact hd
    have r206 : (wM B l).1 206 (10 * p + i) = F.1 (f + 2) (0 + (1 + i)) := by rw [hN.r _ _ _ (by omega) (by omega) (by omega) (by omega), Nat.zero_add]; exact (hq i (by omega)).1
    have r207 : (wM B l).2 207 (10 * p + i) = F.2 (f + 3) (0 + (1 + i)) := by rw [show (wM B l).2 = B0.2 from hN.2.2.2.2, Nat.zero_add]; exact (hq i (by omega)).2
    have hm := meet_fd hS (hS0 (1 + i) (by omega)) k1 k2 k3
    have hit := gK_fd hS0 k1 k2 k3 (m := m) (i := 1 + i + 1) (C := gK w (f + 2) (f + 3) 0 (1 + i) C) (by omega) hm.1
    have hx1 : Ext w (aMeet w (f + 2) (f + 3) (0 + (1 + i)) C) F := hit.2.trans hx
    obtain ⟨B2, g1, g2⟩ := m155c (z := z) (l := l) hL hS hN (hS0 (1 + i) (by omega)) k1 k2 k3 hx1 (by omega)
    have hvl := vBv_len (num := F.1 (w + 9)) (k := F.1 (f + 2) (0 + (1 + i))) (v := F.2 (f + 3) (0 + (1 + i)))
    have hih := ih (i + 1) _ B2 (l ++ vBv (F.1 (w + 9)) (F.1 (f + 2) (0 + (1 + i))) (F.2 (f + 3) (0 + (1 + i)))) (by omega) hm.1 g2 hx (by rw [List.length_append]; omega) (fun B3 h3 => by
      have := hQ B3 h3
      rw [show vsB (F.1 (w + 9)) F (f + 2) (f + 3) (1 + i) (m + 1) = vBv (F.1 (w + 9)) (F.1 (f + 2) (0 + (1 + i))) (F.2 (f + 3) (0 + (1 + i))) ++ vsB (F.1 (w + 9)) F (f + 2) (f + 3) (1 + (i + 1)) m by rw [Nat.zero_add]; rfl, ← List.append_assoc] at this
      exact this)
    refine xp_iload_n rfl rfl ?_
    refine xp_iconst (n := 4) rfl (by decide) ?_
    refine xp_aload_n rfl rfl ?_
    refine xp_gfa rfl rfl (by decide) (by decide) (by first | assumption | exact hL.t rfl) (by first | assumption | exact hL.r rfl | exact hL.2.2.2.2.2) ?_
    refine xp_iload_n rfl rfl ?_
    refine xp_iald rfl (by first | assumption | exact hL.t rfl) (by omega) (by omega) ?_
    rw [r205]
    refine xp_iadd rfl ?_
    refine xp_icge 144 rfl (by decide) (by omega) (by omega) (fun h109 => ?_) (fun h109 => ?_)
    · exfalso; omega
    · skip
      refine xp_aload_n rfl rfl ?_
      refine xp_aload_n rfl rfl ?_
      refine xp_gfa rfl rfl (by decide) (by decide) (by first | assumption | exact hL.t rfl) (by first | assumption | exact hL.r rfl | exact hL.2.2.2.2.2) ?_
      refine xp_bipush (n := 10) rfl (by decide) ?_
      refine xp_iload_n rfl rfl ?_
      refine xp_imul rfl ?_
      refine xp_iload_n rfl rfl ?_
      refine xp_iadd rfl ?_
      refine xp_iald rfl (by first | assumption | exact hL.t rfl) (by omega) (by omega) ?_
      rw [r206]
      refine xp_aload_n rfl rfl ?_
      refine xp_gfa rfl rfl (by decide) (by decide) (by first | assumption | exact hL.t rfl) (by first | assumption | exact hL.r rfl | exact hL.2.2.2.2.2) ?_
      refine xp_bipush (n := 10) rfl (by decide) ?_
      refine xp_iload_n rfl rfl ?_
      refine xp_imul rfl ?_
      refine xp_iload_n rfl rfl ?_
      refine xp_iadd rfl ?_
      refine xp_lald rfl (by first | assumption | exact hL.t rfl) (by omega) (by omega) ?_
      rw [r207]
      refine xp_iv rfl rfl (Nat.le_of_ble_eq_true rfl) (by decide) (by decide) (by decide) (Nat.le_of_ble_eq_true rfl) rfl (xrcv1 (by decide) (by first | assumption | exact hL.t rfl)) (g1) rfl ?_
      refine xp_iinc rfl rfl (by decide) (nI_inc _) ?_
      refine xp_goto 100 rfl (by decide) ?_
      refine xp_weak [(0, .ref 189), (1, .int (nI p)), (2, .int (nI (i + 1)))] (xle_cons rfl (xle_cons rfl (xle_cons rfl (xle_nil _)))) (by simp [xnd]) ?_
      exact hih
theorem m156 {z : Nat} {T : Nat → Option xT} {R : Nat → Nat → Option Nat} {B : xQ} {C B0 F : xQ} {w f p : Nat} {l : List Nat} (hL : xLay T R w) (hW : xW0 T R w) (hF : xF0 T R f) (hk : FOk w F f) (hS : Sr w F C) (hN : NR w C B0 B) (hR : RelF f p F B0) (hp : p < 15) (hx : Ext w (aMeetF w f C) F) (hl : l.length + 102 ≤ 2400) : ∃ B2, xF 156 [.ref 189, .int (nI p)] (xm z T R (wM B l)) (.inr none, xm z T R (wM B2 (l ++ fB (F.1 (w + 9)) F f))) ∧ NR w (aMeetF w f C) B0 B2 := by
  obtain ⟨k1, k2, k3, k4, k5, k6⟩ := xF0.k hW hF
  obtain ⟨q1, q2, q3, q4, q5⟩ := hR
  obtain ⟨o1, o2, o3, o4, o5⟩ := hk
  have hv : ∀ i, i < 5 + F.1 f 3 → VC w F (f + 2) (f + 3) (0 + i) := fun i hi => by rw [Nat.zero_add]; exact o5 i hi
  have eF : aMeetF w f C = xit (gK w (f + 2) (f + 3) 0) (F.1 f 3) 5 (xit (gK w (f + 2) (f + 3) 0) 4 1 (aMeet w (f + 2) (f + 3) 0 C)) := by
    unfold aMeetF
    rw [hS.1.k k4 k5 k6, xit_add, show (fun j B => aMeet w (f + 2) (f + 3) j B) = gK w (f + 2) (f + 3) 0 from funext fun j => funext fun B => by show _ = aMeet w (f + 2) (f + 3) (0 + j) B; rw [Nat.zero_add]]
    rfl
  rw [eF] at hx ⊢
  obtain ⟨s1, s2, -⟩ := meet_fd hS (o5 0 (by omega)) k1 k2 k3
  obtain ⟨t1, t2⟩ := gK_fd hv k1 k2 k3 (m := 4) (i := 1) (by omega) s1
  obtain ⟨u1, u2⟩ := gK_fd hv k1 k2 k3 (m := F.1 f 3) (i := 5) (by omega) t1
  have hx2 := u2.trans hx
  have hx1 := t2.trans hx2
  have n1 := vsB_len (num := F.1 (w + 9)) (A := F) (ka := f + 2) (na := f + 3) 4 1
  have n2 := vsB_len (num := F.1 (w + 9)) (A := F) (ka := f + 2) (na := f + 3) (F.1 f 3) 5
  have r202 : ∀ l, (wM B l).1 202 p = F.1 f 1 := fun l => by rw [hN.r _ _ _ (by omega) (by omega) (by omega) (by omega)]; exact q1
  have r203 : ∀ l, (wM B l).1 203 p = F.1 f 2 := fun l => by rw [hN.r _ _ _ (by omega) (by omega) (by omega) (by omega)]; exact q2
  have r204 : ∀ l, (wM B l).1 204 p = B0.1 204 p := fun l => hN.r _ _ _ (by omega) (by omega) (by omega) (by omega)
  have hb : l ++ fB (F.1 (w + 9)) F f = (((l ++ [F.1 f 1 % 256]) ++ [F.1 f 2 % 256]) ++ vBv (F.1 (w + 9)) (F.1 (f + 2) 0) (F.2 (f + 3) 0) ++ vsB (F.1 (w + 9)) F (f + 2) (f + 3) 1 4) ++ [F.1 f 3 % 256] ++ vsB (F.1 (w + 9)) F (f + 2) (f + 3) 5 (F.1 f 3) := by
    show l ++ (F.1 f 1 % 256 :: F.1 f 2 % 256 :: ((vBv (F.1 (w + 9)) (F.1 (f + 2) 0) (F.2 (f + 3) 0) ++ vsB (F.1 (w + 9)) F (f + 2) (f + 3) 1 4) ++ (F.1 f 3 % 256 :: vsB (F.1 (w + 9)) F (f + 2) (f + 3) 5 (F.1 f 3)))) = _
    simp only [List.append_assoc, List.cons_append, List.nil_append]
  rw [hb]
  have hvl := vBv_len (num := F.1 (w + 9)) (k := F.1 (f + 2) 0) (v := F.2 (f + 3) 0)
  have fin : ∀ B2 l0, l0.length + 91 ≤ 2400 → NR w (aMeet w (f + 2) (f + 3) 0 C) B0 B2 → xP 156 51 [(0, .ref 189), (1, .int (nI p)), (2, .int (nI 0))] [] 0 0 (xm z T R (wM B2 l0)) (fun r => ∃ B3, r = (.inr none, xm z T R (wM B3 (l0 ++ vsB (F.1 (w + 9)) F (f + 2) (f + 3) 1 4 ++ [F.1 f 3 % 256] ++ vsB (F.1 (w + 9)) F (f + 2) (f + 3) 5 (F.1 f 3)))) ∧ NR w (xit (gK w (f + 2) (f + 3) 0) (F.1 f 3) 5 (xit (gK w (f + 2) (f + 3) 0) 4 1 (aMeet w (f + 2) (f + 3) 0 C))) B0 B3) := by
    intro B2 l0 hl0 h2
    have n1b : (vsB (F.1 (w + 9)) F (f + 2) (f + 3) (1 + 0) 4).length ≤ 9 * 4 := n1
    refine l156a hL hv k1 k2 k3 hp o3 q3 q5 4 0 _ B2 l0 (by omega) s1 h2 hx2 (by omega) (fun B3 h3 => ?_)
    have r205 : ∀ l, (wM B3 l).1 205 p = F.1 f 3 := fun l => by rw [h3.r _ _ _ (by omega) (by omega) (by omega) (by omega)]; exact q3
    refine xp_aload_n rfl rfl ?_
    refine xp_aload_n rfl rfl ?_
    refine xp_gfa rfl rfl (by decide) (by decide) (by first | assumption | exact hL.t rfl) (by first | assumption | exact hL.r rfl | exact hL.2.2.2.2.2) ?_
    refine xp_iload_n rfl rfl ?_
    refine xp_iald rfl (by first | assumption | exact hL.t rfl) (by omega) (by omega) ?_
    rw [r205]
    refine xp_iv rfl rfl (Nat.le_of_ble_eq_true rfl) (by decide) (by decide) (by decide) (Nat.le_of_ble_eq_true rfl) rfl (xrcv1 (by decide) (by first | assumption | exact hL.t rfl)) (m152 hL (by (try simp only [List.length_append, List.length_cons, List.length_nil]); omega)) rfl ?_
    refine xp_iconst (n := 4) rfl (by decide) ?_
    refine xp_istore_n rfl (by decide) ?_
    refine xp_weak [(0, .ref 189), (1, .int (nI p)), (2, .int (nI 4))] (xle_cons rfl (xle_cons rfl (xle_cons rfl (xle_nil _)))) (by simp [xnd]) ?_
    refine l156b hL hv k1 k2 k3 hp o3 q3 q5 (F.1 f 3) 4 _ B3 _ (by omega) t1 h3 hx (by (try simp only [List.length_append, List.length_cons, List.length_nil]); omega) (fun B4 h4 => ?_)
    refine xp_return rfl (by decide) (by decide) (by decide) ?_
    exact ⟨B4, rfl, h4⟩
  rcases q4 with ⟨a1, a2⟩ | ⟨a1, a2⟩
  · have e0 : aMeet w (f + 2) (f + 3) 0 C = C := by
      unfold aMeet
      rw [hS.1.k k1 k2 k3, if_neg (by omega)]
    have hf2 := fin B (((l ++ [F.1 f 1 % 256]) ++ [F.1 f 2 % 256]) ++ [0 % 256]) (by (try simp only [List.length_append, List.length_cons, List.length_nil]); omega) (by rw [e0]; exact hN)
    rw [vBv_0 a1, a1]
    refine xF_w (xF_p (Nat.le_of_ble_eq_true rfl) ?_)
    refine xp_aload_n rfl rfl ?_
    refine xp_aload_n rfl rfl ?_
    refine xp_gfa rfl rfl (by decide) (by decide) (by first | assumption | exact hL.t rfl) (by first | assumption | exact hL.r rfl | exact hL.2.2.2.2.2) ?_
    refine xp_iload_n rfl rfl ?_
    refine xp_iald rfl (by first | assumption | exact hL.t rfl) (by omega) (by omega) ?_
    rw [r202]
    refine xp_iv rfl rfl (Nat.le_of_ble_eq_true rfl) (by decide) (by decide) (by decide) (Nat.le_of_ble_eq_true rfl) rfl (xrcv1 (by decide) (by first | assumption | exact hL.t rfl)) (m152 hL (by (try simp only [List.length_append, List.length_cons, List.length_nil]); omega)) rfl ?_
    refine xp_aload_n rfl rfl ?_
    refine xp_aload_n rfl rfl ?_
    refine xp_gfa rfl rfl (by decide) (by decide) (by first | assumption | exact hL.t rfl) (by first | assumption | exact hL.r rfl | exact hL.2.2.2.2.2) ?_
    refine xp_iload_n rfl rfl ?_
    refine xp_iald rfl (by first | assumption | exact hL.t rfl) (by omega) (by omega) ?_
    rw [r203]
    refine xp_iv rfl rfl (Nat.le_of_ble_eq_true rfl) (by decide) (by decide) (by decide) (Nat.le_of_ble_eq_true rfl) rfl (xrcv1 (by decide) (by first | assumption | exact hL.t rfl)) (m152 hL (by (try simp only [List.length_append, List.length_cons, List.length_nil]); omega)) rfl ?_
    refine xp_aload_n rfl rfl ?_
    refine xp_gfa rfl rfl (by decide) (by decide) (by first | assumption | exact hL.t rfl) (by first | assumption | exact hL.r rfl | exact hL.2.2.2.2.2) ?_
    refine xp_iload_n rfl rfl ?_
    refine xp_iald rfl (by first | assumption | exact hL.t rfl) (by omega) (by omega) ?_
    rw [r204, a2]
    refine xp_ifge 37 rfl (by decide) (by omega) (fun h26 => ?_) (fun h26 => ?_)
    · exfalso; omega
    · skip
      refine xp_aload_n rfl rfl ?_
      refine xp_iconst (n := 0) rfl (by decide) ?_
      refine xp_iv rfl rfl (Nat.le_of_ble_eq_true rfl) (by decide) (by decide) (by decide) (Nat.le_of_ble_eq_true rfl) rfl (xrcv1 (by decide) (by first | assumption | exact hL.t rfl)) (m152 hL (by (try simp only [List.length_append, List.length_cons, List.length_nil]); omega)) rfl ?_
      refine xp_goto 49 rfl (by decide) ?_
      refine xp_iconst (n := 0) rfl (by decide) ?_
      refine xp_istore_n rfl (by decide) ?_
      refine xp_weak [(0, .ref 189), (1, .int (nI p)), (2, .int (nI 0))] (xle_cons rfl (xle_cons rfl (xle_cons rfl (xle_nil _)))) (by simp [xnd]) ?_
      exact hf2
  · obtain ⟨ov, v1, v2, v3⟩ := (o5 0 (by omega)).2 (by omega)
    have eo : oN (F.2 (f + 3) 0) = ov := by rw [v2, oN_lN (by omega)]
    obtain ⟨B2, g1, g2⟩ := m155c (z := z) (l := (l ++ [F.1 f 1 % 256]) ++ [F.1 f 2 % 256]) hL hS hN (o5 0 (by omega)) k1 k2 k3 hx1 (by (try simp only [List.length_append, List.length_cons, List.length_nil]); omega)
    have hf2 := fin B2 (((l ++ [F.1 f 1 % 256]) ++ [F.1 f 2 % 256]) ++ vBv (F.1 (w + 9)) (F.1 (f + 2) 0) (F.2 (f + 3) 0)) (by (try simp only [List.length_append, List.length_cons, List.length_nil]); omega) g2
    rw [a1] at g1
    rw [eo] at a2
    rw [v2] at g1
    rw [v2] at hf2 ⊢
    rw [a1] at hf2 ⊢
    refine xF_w (xF_p (Nat.le_of_ble_eq_true rfl) ?_)
    refine xp_aload_n rfl rfl ?_
    refine xp_aload_n rfl rfl ?_
    refine xp_gfa rfl rfl (by decide) (by decide) (by first | assumption | exact hL.t rfl) (by first | assumption | exact hL.r rfl | exact hL.2.2.2.2.2) ?_
    refine xp_iload_n rfl rfl ?_
    refine xp_iald rfl (by first | assumption | exact hL.t rfl) (by omega) (by omega) ?_
    rw [r202]
    refine xp_iv rfl rfl (Nat.le_of_ble_eq_true rfl) (by decide) (by decide) (by decide) (Nat.le_of_ble_eq_true rfl) rfl (xrcv1 (by decide) (by first | assumption | exact hL.t rfl)) (m152 hL (by (try simp only [List.length_append, List.length_cons, List.length_nil]); omega)) rfl ?_
    refine xp_aload_n rfl rfl ?_
    refine xp_aload_n rfl rfl ?_
    refine xp_gfa rfl rfl (by decide) (by decide) (by first | assumption | exact hL.t rfl) (by first | assumption | exact hL.r rfl | exact hL.2.2.2.2.2) ?_
    refine xp_iload_n rfl rfl ?_
    refine xp_iald rfl (by first | assumption | exact hL.t rfl) (by omega) (by omega) ?_
    rw [r203]
    refine xp_iv rfl rfl (Nat.le_of_ble_eq_true rfl) (by decide) (by decide) (by decide) (Nat.le_of_ble_eq_true rfl) rfl (xrcv1 (by decide) (by first | assumption | exact hL.t rfl)) (m152 hL (by (try simp only [List.length_append, List.length_cons, List.length_nil]); omega)) rfl ?_
    refine xp_aload_n rfl rfl ?_
    refine xp_gfa rfl rfl (by decide) (by decide) (by first | assumption | exact hL.t rfl) (by first | assumption | exact hL.r rfl | exact hL.2.2.2.2.2) ?_
    refine xp_iload_n rfl rfl ?_
    refine xp_iald rfl (by first | assumption | exact hL.t rfl) (by omega) (by omega) ?_
    rw [r204, a2]
    refine xp_ifge 37 rfl (by decide) (by omega) (fun h26 => ?_) (fun h26 => ?_)
    · skip
      refine xp_aload_n rfl rfl ?_
      refine xp_iconst (n := 4) rfl (by decide) ?_
      refine xp_aload_n rfl rfl ?_
      refine xp_gfa rfl rfl (by decide) (by decide) (by first | assumption | exact hL.t rfl) (by first | assumption | exact hL.r rfl | exact hL.2.2.2.2.2) ?_
      refine xp_iload_n rfl rfl ?_
      refine xp_iald rfl (by first | assumption | exact hL.t rfl) (by omega) (by omega) ?_
      rw [r204, a2]
      refine xp_i2l rfl ?_
      rw [nI_l (by omega)]
      refine xp_iv rfl rfl (Nat.le_of_ble_eq_true rfl) (by decide) (by decide) (by decide) (Nat.le_of_ble_eq_true rfl) rfl (xrcv1 (by decide) (by first | assumption | exact hL.t rfl)) (g1) rfl ?_
      refine xp_iconst (n := 0) rfl (by decide) ?_
      refine xp_istore_n rfl (by decide) ?_
      refine xp_weak [(0, .ref 189), (1, .int (nI p)), (2, .int (nI 0))] (xle_cons rfl (xle_cons rfl (xle_cons rfl (xle_nil _)))) (by simp [xnd]) ?_
      exact hf2
    · exfalso; omega
theorem l157 {z : Nat} {T : Nat → Option xT} {R : Nat → Nat → Option Nat} {w n : Nat} {F B0 : xQ} (hL : xLay T R w) (hn : n < 24) (h0 : F.1 (w + 3) n ≠ 0) (hk : OOk w F n) (hR : RelO w n F B0) : ∀ (m i : Nat) (C B : xQ) (l : List Nat), i + m = F.1 (w + 5) n → Sr w F C → NR w C B0 B → Ext w (xit (gK w (w + 7) (w + 8) (n * 3)) m i C) F → l.length + 9 * m ≤ 2400 → xP 157 42 [(0, .ref 189), (1, .int (nI n)), (2, .int (nI i))] [] 0 0 (xm z T R (wM B l)) (fun r => ∃ B2, r = (.inr none, xm z T R (wM B2 (l ++ vsB (F.1 (w + 9)) F (w + 7) (w + 8) (n * 3 + i) m))) ∧ NR w (xit (gK w (w + 7) (w + 8) (n * 3)) m i C) B0 B2) := by
  obtain ⟨p1, p2, p3⟩ := hR
  obtain ⟨p21, p22, p23⟩ := p2 h0
  obtain ⟨o1, o2, o3, o4⟩ := id hk
  have hz3 := hk.sz h0
  have hv : ∀ i, i < F.1 (w + 5) n → VC w F (w + 7) (w + 8) (n * 3 + i) := fun i hi => o4 h0 i hi
  have k1 : w + 7 ≠ w + 9 := by omega
  have k2 : w + 7 ≠ w + 10 := by omega
  have k3 : w + 7 ≠ w + 2 := by omega
  intro m
  induction m with
  | zero =>
    intro i C B l hi hS hN hx hl
    have r210 : (wM B l).1 210 n = F.1 (w + 3) n := by rw [hN.r _ _ _ (by omega) (by omega) (by omega) (by omega)]; exact p21
    have r212 : F.1 (w + 3) n ≠ 3 → (wM B l).1 212 n = F.1 (w + 5) n := fun q => by rw [hN.r _ _ _ (by omega) (by omega) (by omega) (by omega)]; exact (p22 (by omega)).2
    refine xp_iload_n rfl rfl ?_
    refine xp_aload_n rfl rfl ?_
    refine xp_gfa rfl rfl (by decide) (by decide) (by first | assumption | exact hL.t rfl) (by first | assumption | exact hL.r rfl | exact hL.2.2.2.2.2) ?_
    refine xp_iload_n rfl rfl ?_
    refine xp_iald rfl (by first | assumption | exact hL.t rfl) (by omega) (by omega) ?_
    rw [r210]
    refine xp_iconst (n := 3) rfl (by decide) ?_
    refine xp_icne 57 rfl (by decide) (by omega) (by omega) (fun h50 => ?_) (fun h50 => ?_)
    · skip
      refine xp_aload_n rfl rfl ?_
      refine xp_gfa rfl rfl (by decide) (by decide) (by first | assumption | exact hL.t rfl) (by first | assumption | exact hL.r rfl | exact hL.2.2.2.2.2) ?_
      refine xp_iload_n rfl rfl ?_
      refine xp_iald rfl (by first | assumption | exact hL.t rfl) (by omega) (by omega) ?_
      first | rw [r212 (by omega)] | skip
      refine xp_icge 104 rfl (by decide) (by omega) (by omega) (fun h63 => ?_) (fun h63 => ?_)
      · skip
        refine xp_return rfl (by decide) (by decide) (by decide) ?_
        rw [show vsB (F.1 (w + 9)) F (w + 7) (w + 8) (n * 3 + i) 0 = [] from rfl, List.append_nil]
        exact ⟨B, rfl, hN⟩
      · exfalso; omega
    · skip
      refine xp_iconst (n := 3) rfl (by decide) ?_
      refine xp_goto 63 rfl (by decide) ?_
      first | rw [r212 (by omega)] | skip
      refine xp_icge 104 rfl (by decide) (by omega) (by omega) (fun h63 => ?_) (fun h63 => ?_)
      · skip
        refine xp_return rfl (by decide) (by decide) (by decide) ?_
        rw [show vsB (F.1 (w + 9)) F (w + 7) (w + 8) (n * 3 + i) 0 = [] from rfl, List.append_nil]
        exact ⟨B, rfl, hN⟩
      · exfalso; omega
  | succ m ih =>
    intro i C B l hi hS hN hx hl
    have r210 : (wM B l).1 210 n = F.1 (w + 3) n := by rw [hN.r _ _ _ (by omega) (by omega) (by omega) (by omega)]; exact p21
    have r212 : F.1 (w + 3) n ≠ 3 → (wM B l).1 212 n = F.1 (w + 5) n := fun q => by rw [hN.r _ _ _ (by omega) (by omega) (by omega) (by omega)]; exact (p22 (by omega)).2
    have r206 : (wM B l).1 206 (160 + 3 * n + i) = F.1 (w + 7) (n * 3 + i) := by rw [hN.r _ _ _ (by omega) (by omega) (by omega) (by omega)]; exact (p23 i (by omega)).1
    have r207 : (wM B l).2 207 (160 + 3 * n + i) = F.2 (w + 8) (n * 3 + i) := by rw [show (wM B l).2 = B0.2 from hN.2.2.2.2]; exact (p23 i (by omega)).2
    have hm := meet_fd hS (hv i (by omega)) k1 k2 k3
    have hit := gK_fd hv k1 k2 k3 (m := m) (i := i + 1) (C := gK w (w + 7) (w + 8) (n * 3) i C) (by omega) hm.1
    have hx1 : Ext w (aMeet w (w + 7) (w + 8) (n * 3 + i) C) F := hit.2.trans hx
    obtain ⟨B2, g1, g2⟩ := m155c (z := z) (l := l) hL hS hN (hv i (by omega)) k1 k2 k3 hx1 (by omega)
    have hvl := vBv_len (num := F.1 (w + 9)) (k := F.1 (w + 7) (n * 3 + i)) (v := F.2 (w + 8) (n * 3 + i))
    have hih := ih (i + 1) _ B2 (l ++ vBv (F.1 (w + 9)) (F.1 (w + 7) (n * 3 + i)) (F.2 (w + 8) (n * 3 + i))) (by omega) hm.1 g2 hx (by rw [List.length_append]; omega)
    rw [List.append_assoc] at hih
    refine xp_iload_n rfl rfl ?_
    refine xp_aload_n rfl rfl ?_
    refine xp_gfa rfl rfl (by decide) (by decide) (by first | assumption | exact hL.t rfl) (by first | assumption | exact hL.r rfl | exact hL.2.2.2.2.2) ?_
    refine xp_iload_n rfl rfl ?_
    refine xp_iald rfl (by first | assumption | exact hL.t rfl) (by omega) (by omega) ?_
    rw [r210]
    refine xp_iconst (n := 3) rfl (by decide) ?_
    refine xp_icne 57 rfl (by decide) (by omega) (by omega) (fun h50 => ?_) (fun h50 => ?_)
    · skip
      refine xp_aload_n rfl rfl ?_
      refine xp_gfa rfl rfl (by decide) (by decide) (by first | assumption | exact hL.t rfl) (by first | assumption | exact hL.r rfl | exact hL.2.2.2.2.2) ?_
      refine xp_iload_n rfl rfl ?_
      refine xp_iald rfl (by first | assumption | exact hL.t rfl) (by omega) (by omega) ?_
      first | rw [r212 (by omega)] | skip
      refine xp_icge 104 rfl (by decide) (by omega) (by omega) (fun h63 => ?_) (fun h63 => ?_)
      · exfalso; omega
      · skip
        refine xp_aload_n rfl rfl ?_
        refine xp_aload_n rfl rfl ?_
        refine xp_gfa rfl rfl (by decide) (by decide) (by first | assumption | exact hL.t rfl) (by first | assumption | exact hL.r rfl | exact hL.2.2.2.2.2) ?_
        refine xp_sipush (n := 160) rfl (by decide) ?_
        refine xp_iconst (n := 3) rfl (by decide) ?_
        refine xp_iload_n rfl rfl ?_
        refine xp_imul rfl ?_
        refine xp_iadd rfl ?_
        refine xp_iload_n rfl rfl ?_
        refine xp_iadd rfl ?_
        refine xp_iald rfl (by first | assumption | exact hL.t rfl) (by omega) (by omega) ?_
        rw [r206]
        refine xp_aload_n rfl rfl ?_
        refine xp_gfa rfl rfl (by decide) (by decide) (by first | assumption | exact hL.t rfl) (by first | assumption | exact hL.r rfl | exact hL.2.2.2.2.2) ?_
        refine xp_sipush (n := 160) rfl (by decide) ?_
        refine xp_iconst (n := 3) rfl (by decide) ?_
        refine xp_iload_n rfl rfl ?_
        refine xp_imul rfl ?_
        refine xp_iadd rfl ?_
        refine xp_iload_n rfl rfl ?_
        refine xp_iadd rfl ?_
        refine xp_lald rfl (by first | assumption | exact hL.t rfl) (by omega) (by omega) ?_
        rw [r207]
        refine xp_iv rfl rfl (Nat.le_of_ble_eq_true rfl) (by decide) (by decide) (by decide) (Nat.le_of_ble_eq_true rfl) rfl (xrcv1 (by decide) (by first | assumption | exact hL.t rfl)) (g1) rfl ?_
        refine xp_iinc rfl rfl (by decide) (nI_inc _) ?_
        refine xp_goto 42 rfl (by decide) ?_
        refine xp_weak [(0, .ref 189), (1, .int (nI n)), (2, .int (nI (i + 1)))] (xle_cons rfl (xle_cons rfl (xle_cons rfl (xle_nil _)))) (by simp [xnd]) ?_
        exact hih
    · skip
      refine xp_iconst (n := 3) rfl (by decide) ?_
      refine xp_goto 63 rfl (by decide) ?_
      first | rw [r212 (by omega)] | skip
      refine xp_icge 104 rfl (by decide) (by omega) (by omega) (fun h63 => ?_) (fun h63 => ?_)
      · exfalso; omega
      · skip
        refine xp_aload_n rfl rfl ?_
        refine xp_aload_n rfl rfl ?_
        refine xp_gfa rfl rfl (by decide) (by decide) (by first | assumption | exact hL.t rfl) (by first | assumption | exact hL.r rfl | exact hL.2.2.2.2.2) ?_
        refine xp_sipush (n := 160) rfl (by decide) ?_
        refine xp_iconst (n := 3) rfl (by decide) ?_
        refine xp_iload_n rfl rfl ?_
        refine xp_imul rfl ?_
        refine xp_iadd rfl ?_
        refine xp_iload_n rfl rfl ?_
        refine xp_iadd rfl ?_
        refine xp_iald rfl (by first | assumption | exact hL.t rfl) (by omega) (by omega) ?_
        rw [r206]
        refine xp_aload_n rfl rfl ?_
        refine xp_gfa rfl rfl (by decide) (by decide) (by first | assumption | exact hL.t rfl) (by first | assumption | exact hL.r rfl | exact hL.2.2.2.2.2) ?_
        refine xp_sipush (n := 160) rfl (by decide) ?_
        refine xp_iconst (n := 3) rfl (by decide) ?_
        refine xp_iload_n rfl rfl ?_
        refine xp_imul rfl ?_
        refine xp_iadd rfl ?_
        refine xp_iload_n rfl rfl ?_
        refine xp_iadd rfl ?_
        refine xp_lald rfl (by first | assumption | exact hL.t rfl) (by omega) (by omega) ?_
        rw [r207]
        refine xp_iv rfl rfl (Nat.le_of_ble_eq_true rfl) (by decide) (by decide) (by decide) (Nat.le_of_ble_eq_true rfl) rfl (xrcv1 (by decide) (by first | assumption | exact hL.t rfl)) (g1) rfl ?_
        refine xp_iinc rfl rfl (by decide) (nI_inc _) ?_
        refine xp_goto 42 rfl (by decide) ?_
        refine xp_weak [(0, .ref 189), (1, .int (nI n)), (2, .int (nI (i + 1)))] (xle_cons rfl (xle_cons rfl (xle_cons rfl (xle_nil _)))) (by simp [xnd]) ?_
        exact hih
theorem m157 {z : Nat} {T : Nat → Option xT} {R : Nat → Nat → Option Nat} {B : xQ} {C B0 F : xQ} {w n : Nat} {l : List Nat} (hL : xLay T R w) (hn : n < 24) (h0 : F.1 (w + 3) n ≠ 0) (hk : OOk w F n) (hR : RelO w n F B0) (hS : Sr w F C) (hN : NR w C B0 B) (hx : Ext w (xit (gK w (w + 7) (w + 8) (n * 3)) (F.1 (w + 5) n) 0 C) F) (hl : l.length + 30 ≤ 2400) : ∃ B2, xF 157 [.ref 189, .int (nI n)] (xm z T R (wM B l)) (.inr none, xm z T R (wM B2 (l ++ oB (F.1 (w + 9)) F w n))) ∧ NR w (xit (gK w (w + 7) (w + 8) (n * 3)) (F.1 (w + 5) n) 0 C) B0 B2 := by
  have hR0 := hR
  obtain ⟨p1, p2, p3⟩ := hR
  obtain ⟨p21, p22, p23⟩ := p2 h0
  obtain ⟨o1, o2, o3, o4⟩ := id hk
  have hz3 := hk.sz h0
  have r210 : ∀ l, (wM B l).1 210 n = F.1 (w + 3) n := fun l => by rw [hN.r _ _ _ (by omega) (by omega) (by omega) (by omega)]; exact p21
  have r211 : F.1 (w + 3) n = 4 → ∀ l, (wM B l).1 211 n = F.1 (w + 4) n := fun q l => by rw [hN.r _ _ _ (by omega) (by omega) (by omega) (by omega)]; exact (p22 q).1
  have r212 : F.1 (w + 3) n = 4 → ∀ l, (wM B l).1 212 n = F.1 (w + 5) n := fun q l => by rw [hN.r _ _ _ (by omega) (by omega) (by omega) (by omega)]; exact (p22 q).2
  have fin := fun l0 (hl0 : l0.length + 9 * F.1 (w + 5) n ≤ 2400) => l157 (z := z) hL hn h0 hk hR0 (F.1 (w + 5) n) 0 C B l0 (by omega) hS hN hx hl0
  unfold oB
  by_cases h4 : F.1 (w + 3) n = 4
  · have fin2 := fin (((l ++ [F.1 (w + 3) n % 256]) ++ [F.1 (w + 4) n % 256]) ++ [F.1 (w + 5) n % 256]) (by (try simp only [List.length_append, List.length_cons, List.length_nil]); omega)
    rw [if_pos h4, show l ++ (F.1 (w + 3) n % 256 :: ([F.1 (w + 4) n % 256, F.1 (w + 5) n % 256] ++ vsB (F.1 (w + 9)) F (w + 7) (w + 8) (n * 3) (F.1 (w + 5) n))) = (((l ++ [F.1 (w + 3) n % 256]) ++ [F.1 (w + 4) n % 256]) ++ [F.1 (w + 5) n % 256]) ++ vsB (F.1 (w + 9)) F (w + 7) (w + 8) (n * 3) (F.1 (w + 5) n) by simp only [List.append_assoc, List.cons_append, List.nil_append]]
    refine xF_w (xF_p (Nat.le_of_ble_eq_true rfl) ?_)
    refine xp_aload_n rfl rfl ?_
    refine xp_aload_n rfl rfl ?_
    refine xp_gfa rfl rfl (by decide) (by decide) (by first | assumption | exact hL.t rfl) (by first | assumption | exact hL.r rfl | exact hL.2.2.2.2.2) ?_
    refine xp_iload_n rfl rfl ?_
    refine xp_iald rfl (by first | assumption | exact hL.t rfl) (by omega) (by omega) ?_
    rw [r210]
    refine xp_iv rfl rfl (Nat.le_of_ble_eq_true rfl) (by decide) (by decide) (by decide) (Nat.le_of_ble_eq_true rfl) rfl (xrcv1 (by decide) (by first | assumption | exact hL.t rfl)) (m152 hL (by (try simp only [List.length_append, List.length_cons, List.length_nil]); omega)) rfl ?_
    refine xp_aload_n rfl rfl ?_
    refine xp_gfa rfl rfl (by decide) (by decide) (by first | assumption | exact hL.t rfl) (by first | assumption | exact hL.r rfl | exact hL.2.2.2.2.2) ?_
    refine xp_iload_n rfl rfl ?_
    refine xp_iald rfl (by first | assumption | exact hL.t rfl) (by omega) (by omega) ?_
    refine xp_iconst (n := 4) rfl (by decide) ?_
    rw [r210]
    refine xp_icne 40 rfl (by decide) (by omega) (by omega) (fun h17 => ?_) (fun h17 => ?_)
    · exfalso; omega
    · skip
      refine xp_aload_n rfl rfl ?_
      refine xp_aload_n rfl rfl ?_
      refine xp_gfa rfl rfl (by decide) (by decide) (by first | assumption | exact hL.t rfl) (by first | assumption | exact hL.r rfl | exact hL.2.2.2.2.2) ?_
      refine xp_iload_n rfl rfl ?_
      refine xp_iald rfl (by first | assumption | exact hL.t rfl) (by omega) (by omega) ?_
      rw [r211 h4]
      refine xp_iv rfl rfl (Nat.le_of_ble_eq_true rfl) (by decide) (by decide) (by decide) (Nat.le_of_ble_eq_true rfl) rfl (xrcv1 (by decide) (by first | assumption | exact hL.t rfl)) (m152 hL (by (try simp only [List.length_append, List.length_cons, List.length_nil]); omega)) rfl ?_
      refine xp_aload_n rfl rfl ?_
      refine xp_aload_n rfl rfl ?_
      refine xp_gfa rfl rfl (by decide) (by decide) (by first | assumption | exact hL.t rfl) (by first | assumption | exact hL.r rfl | exact hL.2.2.2.2.2) ?_
      refine xp_iload_n rfl rfl ?_
      refine xp_iald rfl (by first | assumption | exact hL.t rfl) (by omega) (by omega) ?_
      rw [r212 h4]
      refine xp_iv rfl rfl (Nat.le_of_ble_eq_true rfl) (by decide) (by decide) (by decide) (Nat.le_of_ble_eq_true rfl) rfl (xrcv1 (by decide) (by first | assumption | exact hL.t rfl)) (m152 hL (by (try simp only [List.length_append, List.length_cons, List.length_nil]); omega)) rfl ?_
      refine xp_iconst (n := 0) rfl (by decide) ?_
      refine xp_istore_n rfl (by decide) ?_
      refine xp_weak [(0, .ref 189), (1, .int (nI n)), (2, .int (nI 0))] (xle_cons rfl (xle_cons rfl (xle_cons rfl (xle_nil _)))) (by simp [xnd]) ?_
      exact fin2
  · have fin2 := fin (l ++ [F.1 (w + 3) n % 256]) (by (try simp only [List.length_append, List.length_cons, List.length_nil]); omega)
    rw [if_neg h4, show l ++ (F.1 (w + 3) n % 256 :: ([] ++ vsB (F.1 (w + 9)) F (w + 7) (w + 8) (n * 3) (F.1 (w + 5) n))) = (l ++ [F.1 (w + 3) n % 256]) ++ vsB (F.1 (w + 9)) F (w + 7) (w + 8) (n * 3) (F.1 (w + 5) n) by simp only [List.append_assoc, List.cons_append, List.nil_append]]
    refine xF_w (xF_p (Nat.le_of_ble_eq_true rfl) ?_)
    refine xp_aload_n rfl rfl ?_
    refine xp_aload_n rfl rfl ?_
    refine xp_gfa rfl rfl (by decide) (by decide) (by first | assumption | exact hL.t rfl) (by first | assumption | exact hL.r rfl | exact hL.2.2.2.2.2) ?_
    refine xp_iload_n rfl rfl ?_
    refine xp_iald rfl (by first | assumption | exact hL.t rfl) (by omega) (by omega) ?_
    rw [r210]
    refine xp_iv rfl rfl (Nat.le_of_ble_eq_true rfl) (by decide) (by decide) (by decide) (Nat.le_of_ble_eq_true rfl) rfl (xrcv1 (by decide) (by first | assumption | exact hL.t rfl)) (m152 hL (by (try simp only [List.length_append, List.length_cons, List.length_nil]); omega)) rfl ?_
    refine xp_aload_n rfl rfl ?_
    refine xp_gfa rfl rfl (by decide) (by decide) (by first | assumption | exact hL.t rfl) (by first | assumption | exact hL.r rfl | exact hL.2.2.2.2.2) ?_
    refine xp_iload_n rfl rfl ?_
    refine xp_iald rfl (by first | assumption | exact hL.t rfl) (by omega) (by omega) ?_
    refine xp_iconst (n := 4) rfl (by decide) ?_
    rw [r210]
    refine xp_icne 40 rfl (by decide) (by omega) (by omega) (fun h17 => ?_) (fun h17 => ?_)
    · skip
      refine xp_iconst (n := 0) rfl (by decide) ?_
      refine xp_istore_n rfl (by decide) ?_
      refine xp_weak [(0, .ref 189), (1, .int (nI n)), (2, .int (nI 0))] (xle_cons rfl (xle_cons rfl (xle_cons rfl (xle_nil _)))) (by simp [xnd]) ?_
      exact fin2
    · exfalso; omega
