-- snapshot: the reference's whole; the call
theorem Sr.to {w : Nat} {A F C : xQ} (h : Sr w A C) (ha : Agr w A F) : Sr w F C := ⟨⟨⟨h.1.1.1.trans ha.1.symm, fun a k q1 q2 q3 => (h.1.1.2 a k q1 q2 q3).trans (ha.2 a k q1 q2 q3).symm⟩, h.1.2⟩, h.2⟩
theorem bfs_ext {w : Nat} {F : xQ} (hk : WOk w F) : ∀ (n i : Nat) (C : xQ), Sr w F C → Ext w C (aBfs w n i C) := by
  intro n
  induction n with
  | zero => intro i C _; exact Ext.refl w C
  | succ n ih =>
    intro i C hS
    show Ext w C (if i < C.1 (w + 2) 7 then aBfs w n (i + 1) (aMeetO w i C) else C)
    split
    · rename_i hi
      obtain ⟨q1, q2, -⟩ := mO_fd hk hS hi
      exact q2.trans (ih _ _ q1)
    · exact Ext.refl w C
def gF (w s : Nat) : Nat → xQ → xQ := fun k B => aMeetF w (s + 5 + 4 * k) B
theorem gF_fd {T : Nat → Option xT} {R : Nat → Nat → Option Nat} {w s : Nat} {F : xQ} (hW : xW0 T R w) (hSt : xSt0 T R s) (hk : SOk w F s) {m i : Nat} {C : xQ} (hi : i + m ≤ F.1 s 3) (hS : Sr w F C) : Sr w F (xit (gF w s) m i C) ∧ Ext w C (xit (gF w s) m i C) := by
  have h5 := hk.2.1
  obtain ⟨q1, q2, q3⟩ := fd_it (w := w) (A0 := F) (n := F.1 s 3) (g := gF w s) (Q := fun k o => RF F (s + 5 + 4 * k) o) (fun i A hi hs => mF_fd hW (hSt.2.2.2.2.2 i (by omega)).2 (hk.2.2.2.2.2.2 i hi) hs) m i C hi hS
  exact ⟨q1, q2⟩
def gT (w : Nat) : Nat → xQ → xQ := fun t B => aMeetS w (w + 11 + 25 * t) B
theorem gT_fd {T : Nat → Option xT} {R : Nat → Nat → Option Nat} {w : Nat} {F : xQ} (hW : xW0 T R w) (hk : WOk w F) {m i : Nat} {C : xQ} (hi : i + m ≤ F.1 w 2) (hS : Sr w F C) : Sr w F (xit (gT w) m i C) ∧ Ext w C (xit (gT w) m i C) := by
  have h3 := hk.1
  obtain ⟨q1, q2, q3⟩ := fd_it (w := w) (A0 := F) (n := F.1 w 2) (g := gT w) (Q := fun t o => RS F (w + 11 + 25 * t) o) (fun i A hi hs => mS_fd hW (hW.2.2.2.2.2 i (by omega)).2 (hk.2.1 i hi) hs) m i C hi hS
  exact ⟨q1, q2⟩
theorem l159a {z : Nat} {T : Nat → Option xT} {R : Nat → Nat → Option Nat} {w : Nat} {Q : xR → Prop} (hL : xLay T R w) : ∀ (m i : Nat) (B : xQ), i + m = 24 → xP 159 49 [(0, .ref 189)] [] 0 0 (xm z T R (wM (xit (fun i B => xsI B 215 i 4294967295) m i B) [])) Q → xP 159 30 [(0, .ref 189), (1, .int (nI i))] [] 0 0 (xm z T R (wM B [])) Q := by
  intro m
  induction m with
  | zero =>
    intro i B hi hQ
    refine xp_iload_n rfl rfl ?_
    refine xp_bipush (n := 24) rfl (by decide) ?_
    refine xp_icge 49 rfl (by decide) (by omega) (by omega) (fun h33 => ?_) (fun h33 => ?_)
    · skip
      refine xp_weak [(0, .ref 189)] (xle_cons rfl (xle_nil _)) (by simp [xnd]) ?_
      exact hQ
    · exfalso; omega
  | succ m ih =>
    intro i B hi hQ
    refine xp_iload_n rfl rfl ?_
    refine xp_bipush (n := 24) rfl (by decide) ?_
    refine xp_icge 49 rfl (by decide) (by omega) (by omega) (fun h33 => ?_) (fun h33 => ?_)
    · exfalso; omega
    · skip
      refine xp_aload_n rfl rfl ?_
      refine xp_gfa rfl rfl (by decide) (by decide) (by first | assumption | exact hL.t rfl) (by first | assumption | exact hL.r rfl | exact hL.2.2.2.2.2) ?_
      refine xp_iload_n rfl rfl ?_
      refine xp_iconst (n := 4294967295) rfl (by decide) ?_
      refine xp_iast rfl (by first | assumption | exact hL.t rfl) (by omega) (by omega) ?_
      rw [wM_xsI (by omega) (by omega)]
      refine xp_iinc rfl rfl (by decide) (nI_inc _) ?_
      refine xp_goto 30 rfl (by decide) ?_
      refine xp_weak [(0, .ref 189), (1, .int (nI (i + 1)))] (xle_cons rfl (xle_cons rfl (xle_nil _))) (by simp [xnd]) ?_
      exact ih (i + 1) _ (by omega) hQ
theorem l159b {z : Nat} {T : Nat → Option xT} {R : Nat → Nat → Option Nat} {w t s : Nat} {F B0 : xQ} {Q : xR → Prop} (hL : xLay T R w) (hW : xW0 T R w) (hSt : xSt0 T R s) (hk : SOk w F s) (hR : RelS s t F B0) (ht : t < 3) : ∀ (m k : Nat) (C B : xQ) (l : List Nat), k + m = F.1 s 3 → Sr w F C → NR w C B0 B → Ext w (xit (gF w s) m k C) F → l.length + 102 * m ≤ 2400 → (∀ B2, NR w (xit (gF w s) m k C) B0 B2 → xP 159 216 [(0, .ref 189), (1, .int (nI t))] [] 0 0 (xm z T R (wM B2 (l ++ fsB (F.1 (w + 9)) F s k m))) Q) → xP 159 141 [(0, .ref 189), (1, .int (nI t)), (2, .int (nI (5 * t + k)))] [] 0 0 (xm z T R (wM B l)) Q := by
  have h5 := hk.2.1
  intro m
  induction m with
  | zero =>
    intro k C B l hi hS hN hx hl hQ
    have hQ2 := hQ B hN
    rw [show fsB (F.1 (w + 9)) F s k 0 = [] from rfl, List.append_nil] at hQ2
    have r201 : (wM B l).1 201 t = F.1 s 3 := by rw [hN.r _ _ _ (by omega) (by omega) (by omega) (by omega)]; exact hR.2.2.1
    refine xp_iload_n rfl rfl ?_
    refine xp_iconst (n := 5) rfl (by decide) ?_
    refine xp_iload_n rfl rfl ?_
    refine xp_imul rfl ?_
    refine xp_aload_n rfl rfl ?_
    refine xp_gfa rfl rfl (by decide) (by decide) (by first | assumption | exact hL.t rfl) (by first | assumption | exact hL.r rfl | exact hL.2.2.2.2.2) ?_
    refine xp_iload_n rfl rfl ?_
    refine xp_iald rfl (by first | assumption | exact hL.t rfl) (by omega) (by omega) ?_
    rw [r201]
    refine xp_iadd rfl ?_
    refine xp_icge 166 rfl (by decide) (by omega) (by omega) (fun h152 => ?_) (fun h152 => ?_)
    · skip
      refine xp_goto 216 rfl (by decide) ?_
      refine xp_weak [(0, .ref 189), (1, .int (nI t))] (xle_cons rfl (xle_cons rfl (xle_nil _))) (by simp [xnd]) ?_
      exact hQ2
    · exfalso; omega
  | succ m ih =>
    intro k C B l hi hS hN hx hl hQ
    have r201 : (wM B l).1 201 t = F.1 s 3 := by rw [hN.r _ _ _ (by omega) (by omega) (by omega) (by omega)]; exact hR.2.2.1
    have hm := mF_fd hW (hSt.2.2.2.2.2 k (by omega)).2 (hk.2.2.2.2.2.2 k (by omega)) hS
    have hit := gF_fd hW hSt hk (m := m) (i := k + 1) (C := gF w s k C) (by omega) hm.1
    have hx1 : Ext w (aMeetF w (s + 5 + 4 * k) C) F := hit.2.trans hx
    obtain ⟨B2, g1, g2⟩ := m156 (z := z) (l := l) (p := 5 * t + k) hL hW (hSt.2.2.2.2.2 k (by omega)).2 (hk.2.2.2.2.2.2 k (by omega)) hS hN (hR.2.2.2.2 k (by omega)) (by omega) hx1 (by omega)
    have hvl := fB_len (num := F.1 (w + 9)) (hk.2.2.2.2.2.2 k (by omega)).2.2.1
    have hih := ih (k + 1) _ B2 (l ++ fB (F.1 (w + 9)) F (s + 5 + 4 * k)) (by omega) hm.1 g2 hx (by rw [List.length_append]; omega) (fun B3 h3 => by
      have := hQ B3 h3
      rw [show fsB (F.1 (w + 9)) F s k (m + 1) = fB (F.1 (w + 9)) F (s + 5 + 4 * k) ++ fsB (F.1 (w + 9)) F s (k + 1) m from rfl, ← List.append_assoc] at this
      exact this)
    refine xp_iload_n rfl rfl ?_
    refine xp_iconst (n := 5) rfl (by decide) ?_
    refine xp_iload_n rfl rfl ?_
    refine xp_imul rfl ?_
    refine xp_aload_n rfl rfl ?_
    refine xp_gfa rfl rfl (by decide) (by decide) (by first | assumption | exact hL.t rfl) (by first | assumption | exact hL.r rfl | exact hL.2.2.2.2.2) ?_
    refine xp_iload_n rfl rfl ?_
    refine xp_iald rfl (by first | assumption | exact hL.t rfl) (by omega) (by omega) ?_
    rw [r201]
    refine xp_iadd rfl ?_
    refine xp_icge 166 rfl (by decide) (by omega) (by omega) (fun h152 => ?_) (fun h152 => ?_)
    · exfalso; omega
    · skip
      refine xp_aload_n rfl rfl ?_
      refine xp_iload_n rfl rfl ?_
      refine xp_iv rfl rfl (Nat.le_of_ble_eq_true rfl) (by decide) (by decide) (by decide) (Nat.le_of_ble_eq_true rfl) rfl (xrcv1 (by decide) (by first | assumption | exact hL.t rfl)) (g1) rfl ?_
      refine xp_iinc rfl rfl (by decide) (nI_inc _) ?_
      refine xp_goto 141 rfl (by decide) ?_
      refine xp_weak [(0, .ref 189), (1, .int (nI t)), (2, .int (nI (5 * t + (k + 1))))] (xle_cons rfl (xle_cons rfl (xle_cons rfl (xle_nil _)))) (by simp [xnd]) ?_
      exact hih
theorem l159c {z : Nat} {T : Nat → Option xT} {R : Nat → Nat → Option Nat} {w : Nat} {F B0 : xQ} {Q : xR → Prop} (hL : xLay T R w) (hW : xW0 T R w) (hcF : COk w F) (hR : Rel w F B0) : ∀ (m t : Nat) (C B : xQ) (l : List Nat), t + m = F.1 w 2 → Sr w F C → NR w C B0 B → Ext w (xit (gT w) m t C) F → l.length + 512 * m ≤ 2400 → (∀ B2, NR w (xit (gT w) m t C) B0 B2 → xP 159 222 [(0, .ref 189)] [] 0 0 (xm z T R (wM B2 (l ++ ssB (F.1 (w + 9)) F w t m))) Q) → xP 159 100 [(0, .ref 189), (1, .int (nI t))] [] 0 0 (xm z T R (wM B l)) Q := by
  have h3 := hcF.cnt
  intro m
  induction m with
  | zero =>
    intro t C B l hi hS hN hx hl hQ
    have hQ2 := hQ B hN
    rw [show ssB (F.1 (w + 9)) F w t 0 = [] from rfl, List.append_nil] at hQ2
    have r9 : (wM B l).1 189 9 = F.1 w 2 := by rw [hN.r _ _ _ (by omega) (by omega) (by omega) (by omega)]; exact hR.2.2.1.1
    refine xp_iload_n rfl rfl ?_
    refine xp_aload_n rfl rfl ?_
    refine xp_gfi rfl rfl (by decide) (by decide) (by first | assumption | exact hL.t rfl) ?_
    rw [r9]
    refine xp_icge 222 rfl (by decide) (by omega) (by omega) (fun h105 => ?_) (fun h105 => ?_)
    · skip
      refine xp_weak [(0, .ref 189)] (xle_cons rfl (xle_nil _)) (by simp [xnd]) ?_
      exact hQ2
    · exfalso; omega
  | succ m ih =>
    intro t C B l hi hS hN hx hl hQ
    have r9 : (wM B l).1 189 9 = F.1 w 2 := by rw [hN.r _ _ _ (by omega) (by omega) (by omega) (by omega)]; exact hR.2.2.1.1
    have hk := hcF.st (t := t) (by omega)
    have hSt := (hW.2.2.2.2.2 t (by omega)).2
    have hRS := hR.2.2.2.1 t (by omega)
    obtain ⟨y1, y2, y3, y4, y5⟩ := hRS
    obtain ⟨k1, k2, k3, k4, k5, k6⟩ := xSt0.k hW hSt
    obtain ⟨o1, o2, o3, o4, o5, o6, o7⟩ := id hk
    have hm := mS_fd hW hSt hk hS
    have hit := gT_fd hW hcF.2.1 (m := m) (i := t + 1) (C := gT w t C) (by omega) hm.1
    have hx1 : Ext w (aMeetS w (w + 11 + 25 * t) C) F := hit.2.trans hx
    have hvl := sB_len (num := F.1 (w + 9)) hk
    have hcont : ∀ B2, NR w (aMeetS w (w + 11 + 25 * t) C) B0 B2 → xP 159 100 [(0, .ref 189), (1, .int (nI (t + 1)))] [] 0 0 (xm z T R (wM B2 (l ++ sB (F.1 (w + 9)) F (w + 11 + 25 * t)))) Q := fun B2 h2 => ih (t + 1) _ B2 _ (by omega) hm.1 h2 hx (by rw [List.length_append]; omega) (fun B3 h3 => by
      have := hQ B3 h3
      rw [show ssB (F.1 (w + 9)) F w t (m + 1) = sB (F.1 (w + 9)) F (w + 11 + 25 * t) ++ ssB (F.1 (w + 9)) F w (t + 1) m from rfl, ← List.append_assoc] at this
      exact this)
    have r199 : ∀ l, (wM B l).1 199 t = F.1 (w + 11 + 25 * t) 2 := fun l => by rw [hN.r _ _ _ (by omega) (by omega) (by omega) (by omega)]; exact y1
    have r200 : ∀ l, (wM B l).1 200 t = F.1 (w + 11 + 25 * t) 4 := fun l => by rw [hN.r _ _ _ (by omega) (by omega) (by omega) (by omega)]; exact y2.1
    have r201 : ∀ l, (wM B l).1 201 t = F.1 (w + 11 + 25 * t) 3 := fun l => by rw [hN.r _ _ _ (by omega) (by omega) (by omega) (by omega)]; exact y3
    have eS : aMeetS w (w + 11 + 25 * t) C = xit (gF w (w + 11 + 25 * t)) (F.1 (w + 11 + 25 * t) 3) 0 (if F.1 (w + 11 + 25 * t) 2 = 1 then aMeet w (w + 11 + 25 * t + 3) (w + 11 + 25 * t + 4) 0 C else C) := by
      unfold aMeetS
      rw [hS.1.k k4 k5 k6, hS.1.k k4 k5 k6]
      rfl
    rw [eS] at hx1 hcont
    unfold sB at hcont
    have h012 : F.1 (w + 11 + 25 * t) 2 = 0 ∨ F.1 (w + 11 + 25 * t) 2 = 1 ∨ F.1 (w + 11 + 25 * t) 2 = 2 := by omega
    rcases h012 with hs | hs | hs
    · rw [if_neg (by omega)] at hx1
      have hcont2 : ∀ B2, NR w (xit (gF w (w + 11 + 25 * t)) (F.1 (w + 11 + 25 * t) 3) 0 C) B0 B2 → xP 159 100 [(0, .ref 189), (1, .int (nI (t + 1)))] [] 0 0 (xm z T R (wM B2 (((l ++ [F.1 (w + 11 + 25 * t) 2 % 256]) ++ [F.1 (w + 11 + 25 * t) 3 % 256]) ++ fsB (F.1 (w + 9)) F (w + 11 + 25 * t) 0 (F.1 (w + 11 + 25 * t) 3)))) Q := fun B2 h2 => by
        have := hcont B2 (by rw [if_neg (by omega)]; exact h2)
        rw [if_neg (by omega), if_neg (by omega), show l ++ (F.1 (w + 11 + 25 * t) 2 % 256 :: F.1 (w + 11 + 25 * t) 3 % 256 :: fsB (F.1 (w + 9)) F (w + 11 + 25 * t) 0 (F.1 (w + 11 + 25 * t) 3)) = ((l ++ [F.1 (w + 11 + 25 * t) 2 % 256]) ++ [F.1 (w + 11 + 25 * t) 3 % 256]) ++ fsB (F.1 (w + 9)) F (w + 11 + 25 * t) 0 (F.1 (w + 11 + 25 * t) 3) by simp only [List.append_assoc, List.cons_append, List.nil_append]] at this
        exact this
      refine xp_iload_n rfl rfl ?_
      refine xp_aload_n rfl rfl ?_
      refine xp_gfi rfl rfl (by decide) (by decide) (by first | assumption | exact hL.t rfl) ?_
      rw [r9]
      refine xp_icge 222 rfl (by decide) (by omega) (by omega) (fun h105 => ?_) (fun h105 => ?_)
      · exfalso; omega
      · skip
        refine xp_aload_n rfl rfl ?_
        refine xp_aload_n rfl rfl ?_
        refine xp_gfa rfl rfl (by decide) (by decide) (by first | assumption | exact hL.t rfl) (by first | assumption | exact hL.r rfl | exact hL.2.2.2.2.2) ?_
        refine xp_iload_n rfl rfl ?_
        refine xp_iald rfl (by first | assumption | exact hL.t rfl) (by omega) (by omega) ?_
        rw [r199]
        refine xp_iv rfl rfl (Nat.le_of_ble_eq_true rfl) (by decide) (by decide) (by decide) (Nat.le_of_ble_eq_true rfl) rfl (xrcv1 (by decide) (by first | assumption | exact hL.t rfl)) (m152 hL (by (try simp only [List.length_append, List.length_cons, List.length_nil]); omega)) rfl ?_
        refine xp_aload_n rfl rfl ?_
        refine xp_gfa rfl rfl (by decide) (by decide) (by first | assumption | exact hL.t rfl) (by first | assumption | exact hL.r rfl | exact hL.2.2.2.2.2) ?_
        refine xp_iload_n rfl rfl ?_
        refine xp_iald rfl (by first | assumption | exact hL.t rfl) (by omega) (by omega) ?_
        rw [r199]
        refine xp_ifne 169 rfl (by decide) (by omega) (fun h124 => ?_) (fun h124 => ?_)
        · exfalso; omega
        · skip
          refine xp_aload_n rfl rfl ?_
          refine xp_aload_n rfl rfl ?_
          refine xp_gfa rfl rfl (by decide) (by decide) (by first | assumption | exact hL.t rfl) (by first | assumption | exact hL.r rfl | exact hL.2.2.2.2.2) ?_
          refine xp_iload_n rfl rfl ?_
          refine xp_iald rfl (by first | assumption | exact hL.t rfl) (by omega) (by omega) ?_
          rw [r201]
          refine xp_iv rfl rfl (Nat.le_of_ble_eq_true rfl) (by decide) (by decide) (by decide) (Nat.le_of_ble_eq_true rfl) rfl (xrcv1 (by decide) (by first | assumption | exact hL.t rfl)) (m152 hL (by (try simp only [List.length_append, List.length_cons, List.length_nil]); omega)) rfl ?_
          refine xp_iconst (n := 5) rfl (by decide) ?_
          refine xp_iload_n rfl rfl ?_
          refine xp_imul rfl ?_
          refine xp_istore_n rfl (by decide) ?_
          refine xp_weak [(0, .ref 189), (1, .int (nI t)), (2, .int (nI (5 * t + 0)))] (xle_cons rfl (xle_cons rfl (xle_cons rfl (xle_nil _)))) (by simp [xnd]) ?_
          refine l159b hL hW hSt hk ⟨y1, y2, y3, y4, y5⟩ (by omega) (F.1 (w + 11 + 25 * t) 3) 0 C B _ (by omega) hS hN hx1 (by (try simp only [List.length_append, List.length_cons, List.length_nil]); omega) (fun B2 h2 => ?_)
          refine xp_iinc rfl rfl (by decide) (nI_inc _) ?_
          refine xp_goto 100 rfl (by decide) ?_
          refine xp_weak [(0, .ref 189), (1, .int (nI (t + 1)))] (xle_cons rfl (xle_cons rfl (xle_nil _))) (by simp [xnd]) ?_
          exact hcont2 B2 h2
    · have o42 := o4 (by omega)
      rw [if_pos hs, o42] at hx1
      have hx2 : Ext w (aMeet w (w + 11 + 25 * t + 3) (w + 11 + 25 * t + 4) 0 C) F := hx1
      obtain ⟨B2, h1, h2⟩ := m155c (z := z) (l := l ++ [F.1 (w + 11 + 25 * t) 2 % 256]) hL hS hN (o6 hs) k1 k2 k3 hx2 (by (try simp only [List.length_append, List.length_cons, List.length_nil]); omega)
      have hcont2 : ∀ B2, NR w (aMeet w (w + 11 + 25 * t + 3) (w + 11 + 25 * t + 4) 0 C) B0 B2 → xP 159 100 [(0, .ref 189), (1, .int (nI (t + 1)))] [] 0 0 (xm z T R (wM B2 ((l ++ [F.1 (w + 11 + 25 * t) 2 % 256]) ++ vBv (F.1 (w + 9)) (F.1 (w + 11 + 25 * t + 3) 0) (F.2 (w + 11 + 25 * t + 4) 0)))) Q := fun B2 h2 => by
        have := hcont B2 (by rw [if_pos hs, o42]; exact h2)
        rw [if_pos hs, show l ++ (F.1 (w + 11 + 25 * t) 2 % 256 :: vsB (F.1 (w + 9)) F (w + 11 + 25 * t + 3) (w + 11 + 25 * t + 4) 0 1) = (l ++ [F.1 (w + 11 + 25 * t) 2 % 256]) ++ vBv (F.1 (w + 9)) (F.1 (w + 11 + 25 * t + 3) 0) (F.2 (w + 11 + 25 * t + 4) 0) by
          show l ++ (F.1 (w + 11 + 25 * t) 2 % 256 :: (vBv (F.1 (w + 9)) (F.1 (w + 11 + 25 * t + 3) 0) (F.2 (w + 11 + 25 * t + 4) 0) ++ [])) = _
          simp only [List.append_assoc, List.cons_append, List.nil_append, List.append_nil]] at this
        exact this
      have r206 : ∀ l, (wM B l).1 206 (150 + t) = F.1 (w + 11 + 25 * t + 3) 0 := fun l => by rw [hN.r _ _ _ (by omega) (by omega) (by omega) (by omega)]; exact (y4 hs).1
      have r207 : ∀ l, (wM B l).2 207 (150 + t) = F.2 (w + 11 + 25 * t + 4) 0 := fun l => by rw [show (wM B l).2 = B0.2 from hN.2.2.2.2]; exact (y4 hs).2
      refine xp_iload_n rfl rfl ?_
      refine xp_aload_n rfl rfl ?_
      refine xp_gfi rfl rfl (by decide) (by decide) (by first | assumption | exact hL.t rfl) ?_
      rw [r9]
      refine xp_icge 222 rfl (by decide) (by omega) (by omega) (fun h105 => ?_) (fun h105 => ?_)
      · exfalso; omega
      · skip
        refine xp_aload_n rfl rfl ?_
        refine xp_aload_n rfl rfl ?_
        refine xp_gfa rfl rfl (by decide) (by decide) (by first | assumption | exact hL.t rfl) (by first | assumption | exact hL.r rfl | exact hL.2.2.2.2.2) ?_
        refine xp_iload_n rfl rfl ?_
        refine xp_iald rfl (by first | assumption | exact hL.t rfl) (by omega) (by omega) ?_
        rw [r199]
        refine xp_iv rfl rfl (Nat.le_of_ble_eq_true rfl) (by decide) (by decide) (by decide) (Nat.le_of_ble_eq_true rfl) rfl (xrcv1 (by decide) (by first | assumption | exact hL.t rfl)) (m152 hL (by (try simp only [List.length_append, List.length_cons, List.length_nil]); omega)) rfl ?_
        refine xp_aload_n rfl rfl ?_
        refine xp_gfa rfl rfl (by decide) (by decide) (by first | assumption | exact hL.t rfl) (by first | assumption | exact hL.r rfl | exact hL.2.2.2.2.2) ?_
        refine xp_iload_n rfl rfl ?_
        refine xp_iald rfl (by first | assumption | exact hL.t rfl) (by omega) (by omega) ?_
        rw [r199]
        refine xp_ifne 169 rfl (by decide) (by omega) (fun h124 => ?_) (fun h124 => ?_)
        · skip
          refine xp_aload_n rfl rfl ?_
          refine xp_gfa rfl rfl (by decide) (by decide) (by first | assumption | exact hL.t rfl) (by first | assumption | exact hL.r rfl | exact hL.2.2.2.2.2) ?_
          refine xp_iload_n rfl rfl ?_
          refine xp_iald rfl (by first | assumption | exact hL.t rfl) (by omega) (by omega) ?_
          refine xp_iconst (n := 1) rfl (by decide) ?_
          rw [r199]
          refine xp_icne 206 rfl (by decide) (by omega) (by omega) (fun h176 => ?_) (fun h176 => ?_)
          · exfalso; omega
          · skip
            refine xp_aload_n rfl rfl ?_
            refine xp_aload_n rfl rfl ?_
            refine xp_gfa rfl rfl (by decide) (by decide) (by first | assumption | exact hL.t rfl) (by first | assumption | exact hL.r rfl | exact hL.2.2.2.2.2) ?_
            refine xp_sipush (n := 150) rfl (by decide) ?_
            refine xp_iload_n rfl rfl ?_
            refine xp_iadd rfl ?_
            refine xp_iald rfl (by first | assumption | exact hL.t rfl) (by omega) (by omega) ?_
            rw [r206]
            refine xp_aload_n rfl rfl ?_
            refine xp_gfa rfl rfl (by decide) (by decide) (by first | assumption | exact hL.t rfl) (by first | assumption | exact hL.r rfl | exact hL.2.2.2.2.2) ?_
            refine xp_sipush (n := 150) rfl (by decide) ?_
            refine xp_iload_n rfl rfl ?_
            refine xp_iadd rfl ?_
            refine xp_lald rfl (by first | assumption | exact hL.t rfl) (by omega) (by omega) ?_
            rw [r207]
            refine xp_iv rfl rfl (Nat.le_of_ble_eq_true rfl) (by decide) (by decide) (by decide) (Nat.le_of_ble_eq_true rfl) rfl (xrcv1 (by decide) (by first | assumption | exact hL.t rfl)) (h1) rfl ?_
            refine xp_goto 216 rfl (by decide) ?_
            refine xp_iinc rfl rfl (by decide) (nI_inc _) ?_
            refine xp_goto 100 rfl (by decide) ?_
            refine xp_weak [(0, .ref 189), (1, .int (nI (t + 1)))] (xle_cons rfl (xle_cons rfl (xle_nil _))) (by simp [xnd]) ?_
            exact hcont2 B2 h2
        · exfalso; omega
    · have o42 := o4 (by omega)
      have hcont2 : ∀ B2, NR w C B0 B2 → xP 159 100 [(0, .ref 189), (1, .int (nI (t + 1)))] [] 0 0 (xm z T R (wM B2 ((l ++ [F.1 (w + 11 + 25 * t) 2 % 256]) ++ [F.1 (w + 11 + 25 * t) 4 % 256]))) Q := fun B2 h2 => by
        have := hcont B2 (by rw [if_neg (by omega), o42]; exact h2)
        rw [if_neg (by omega), if_pos hs, show l ++ (F.1 (w + 11 + 25 * t) 2 % 256 :: [F.1 (w + 11 + 25 * t) 4 % 256]) = (l ++ [F.1 (w + 11 + 25 * t) 2 % 256]) ++ [F.1 (w + 11 + 25 * t) 4 % 256] by simp only [List.append_assoc, List.cons_append, List.nil_append]] at this
        exact this
      refine xp_iload_n rfl rfl ?_
      refine xp_aload_n rfl rfl ?_
      refine xp_gfi rfl rfl (by decide) (by decide) (by first | assumption | exact hL.t rfl) ?_
      rw [r9]
      refine xp_icge 222 rfl (by decide) (by omega) (by omega) (fun h105 => ?_) (fun h105 => ?_)
      · exfalso; omega
      · skip
        refine xp_aload_n rfl rfl ?_
        refine xp_aload_n rfl rfl ?_
        refine xp_gfa rfl rfl (by decide) (by decide) (by first | assumption | exact hL.t rfl) (by first | assumption | exact hL.r rfl | exact hL.2.2.2.2.2) ?_
        refine xp_iload_n rfl rfl ?_
        refine xp_iald rfl (by first | assumption | exact hL.t rfl) (by omega) (by omega) ?_
        rw [r199]
        refine xp_iv rfl rfl (Nat.le_of_ble_eq_true rfl) (by decide) (by decide) (by decide) (Nat.le_of_ble_eq_true rfl) rfl (xrcv1 (by decide) (by first | assumption | exact hL.t rfl)) (m152 hL (by (try simp only [List.length_append, List.length_cons, List.length_nil]); omega)) rfl ?_
        refine xp_aload_n rfl rfl ?_
        refine xp_gfa rfl rfl (by decide) (by decide) (by first | assumption | exact hL.t rfl) (by first | assumption | exact hL.r rfl | exact hL.2.2.2.2.2) ?_
        refine xp_iload_n rfl rfl ?_
        refine xp_iald rfl (by first | assumption | exact hL.t rfl) (by omega) (by omega) ?_
        rw [r199]
        refine xp_ifne 169 rfl (by decide) (by omega) (fun h124 => ?_) (fun h124 => ?_)
        · skip
          refine xp_aload_n rfl rfl ?_
          refine xp_gfa rfl rfl (by decide) (by decide) (by first | assumption | exact hL.t rfl) (by first | assumption | exact hL.r rfl | exact hL.2.2.2.2.2) ?_
          refine xp_iload_n rfl rfl ?_
          refine xp_iald rfl (by first | assumption | exact hL.t rfl) (by omega) (by omega) ?_
          refine xp_iconst (n := 1) rfl (by decide) ?_
          rw [r199]
          refine xp_icne 206 rfl (by decide) (by omega) (by omega) (fun h176 => ?_) (fun h176 => ?_)
          · skip
            refine xp_aload_n rfl rfl ?_
            refine xp_aload_n rfl rfl ?_
            refine xp_gfa rfl rfl (by decide) (by decide) (by first | assumption | exact hL.t rfl) (by first | assumption | exact hL.r rfl | exact hL.2.2.2.2.2) ?_
            refine xp_iload_n rfl rfl ?_
            refine xp_iald rfl (by first | assumption | exact hL.t rfl) (by omega) (by omega) ?_
            rw [r200]
            refine xp_iv rfl rfl (Nat.le_of_ble_eq_true rfl) (by decide) (by decide) (by decide) (Nat.le_of_ble_eq_true rfl) rfl (xrcv1 (by decide) (by first | assumption | exact hL.t rfl)) (m152 hL (by (try simp only [List.length_append, List.length_cons, List.length_nil]); omega)) rfl ?_
            refine xp_iinc rfl rfl (by decide) (nI_inc _) ?_
            refine xp_goto 100 rfl (by decide) ?_
            refine xp_weak [(0, .ref 189), (1, .int (nI (t + 1)))] (xle_cons rfl (xle_cons rfl (xle_nil _))) (by simp [xnd]) ?_
            exact hcont2 B hN
          · exfalso; omega
        · exfalso; omega
theorem l159d {z : Nat} {T : Nat → Option xT} {R : Nat → Nat → Option Nat} {w q : Nat} {F B0 : xQ} {Q : xR → Prop} (hL : xLay T R w) (hcF : COk w F) (hR : Rel w F B0) (hfF : FInv w F) : ∀ (n i : Nat) (C B : xQ) (l : List Nat), i + n = 24 → Sr w F C → NR w C B0 B → aBfs w n i C = F → l.length + 30 * (F.1 (w + 2) 7 - i) ≤ 2400 → (∀ B2, NR w F B0 B2 → xP 159 258 [(0, .ref 189), (1, .int (nI q))] [] 0 0 (xm z T R (wM B2 (l ++ osB (F.1 (w + 9)) F w i (F.1 (w + 2) 7 - i)))) Q) → xP 159 234 [(0, .ref 189), (1, .int (nI q)), (2, .int (nI i))] [] 0 0 (xm z T R (wM B l)) Q := by
  have hfc := hfF.fc2
  intro n
  induction n with
  | zero =>
    intro i C B l hi hS hN hF hl hQ
    have hF2 : C = F := hF
    rw [hF2] at hN
    have hQ2 := hQ B hN
    rw [show F.1 (w + 2) 7 - i = 0 by omega, show osB (F.1 (w + 9)) F w i 0 = [] from rfl, List.append_nil] at hQ2
    have r36 : (wM B l).1 189 36 = F.1 (w + 2) 7 := by rw [wM_ne (by omega) (by omega)]; exact hN.1
    refine xp_iload_n rfl rfl ?_
    refine xp_aload_n rfl rfl ?_
    refine xp_gfi rfl rfl (by decide) (by decide) (by first | assumption | exact hL.t rfl) ?_
    rw [r36]
    refine xp_icge 258 rfl (by decide) (by omega) (by omega) (fun h239 => ?_) (fun h239 => ?_)
    · skip
      refine xp_weak [(0, .ref 189), (1, .int (nI q))] (xle_cons rfl (xle_cons rfl (xle_nil _))) (by simp [xnd]) ?_
      exact hQ2
    · exfalso; omega
  | succ n ih =>
    intro i C B l hi hS hN hF hl hQ
    have r36 : (wM B l).1 189 36 = C.1 (w + 2) 7 := by rw [wM_ne (by omega) (by omega)]; exact hN.1
    have hCc := hS.1.2.fc2
    have hE : Ext w C F := by have := bfs_ext hcF.2.1 (n + 1) i C hS; rw [hF] at this; exact this
    have hF2 : (if i < C.1 (w + 2) 7 then aBfs w n (i + 1) (aMeetO w i C) else C) = F := hF
    by_cases hlt : i < C.1 (w + 2) 7
    · rw [if_pos hlt] at hF2
      obtain ⟨o1, o2, o3⟩ := hS.1.2.2.2 i hlt
      have hge := hE.1
      have e10 := hE.2.1 i hlt
      obtain ⟨s1, s2, -⟩ := mO_fd hcF.2.1 hS hlt
      have hx1 : Ext w (aMeetO w i C) F := by have := bfs_ext hcF.2.1 n (i + 1) _ s1; rw [hF2] at this; exact this
      have r216 : (wM B l).1 216 i = C.1 (w + 10) i := by rw [wM_ne (by omega) (by omega)]; exact hN.2.2.1 i hlt
      have e3 : C.1 (w + 3) (C.1 (w + 10) i) = F.1 (w + 3) (C.1 (w + 10) i) := hS.1.k (by omega) (by omega) (by omega)
      have eO : aMeetO w i C = xit (gK w (w + 7) (w + 8) (C.1 (w + 10) i * 3)) (F.1 (w + 5) (C.1 (w + 10) i)) 0 C := by
        unfold aMeetO
        rw [hS.1.k (ka := w + 5) (by omega) (by omega) (by omega)]
        rfl
      rw [eO] at hx1
      obtain ⟨B2, g1, g2⟩ := m157 (z := z) (l := l) hL o1 (by rw [← e3]; exact o3) (hcF.2.1.2.2 _ o1) (hR.2.2.2.2 _ o1) hS hN hx1 (by omega)
      rw [← eO] at g2
      have hvl := oB_len (num := F.1 (w + 9)) (A := F) (w := w) (n := C.1 (w + 10) i) ((hcF.2.1.2.2 _ o1).sz3 (by rw [← e3]; exact o3))
      have hih := ih (i + 1) _ B2 (l ++ oB (F.1 (w + 9)) F w (C.1 (w + 10) i)) (by omega) s1 g2 hF2 (by rw [List.length_append]; omega) (fun B3 h3 => by
        have := hQ B3 h3
        rw [show F.1 (w + 2) 7 - i = (F.1 (w + 2) 7 - (i + 1)) + 1 by omega, show osB (F.1 (w + 9)) F w i (F.1 (w + 2) 7 - (i + 1) + 1) = oB (F.1 (w + 9)) F w (F.1 (w + 10) i) ++ osB (F.1 (w + 9)) F w (i + 1) (F.1 (w + 2) 7 - (i + 1)) from rfl, e10, ← List.append_assoc] at this
        exact this)
      refine xp_iload_n rfl rfl ?_
      refine xp_aload_n rfl rfl ?_
      refine xp_gfi rfl rfl (by decide) (by decide) (by first | assumption | exact hL.t rfl) ?_
      rw [r36]
      refine xp_icge 258 rfl (by decide) (by omega) (by omega) (fun h239 => ?_) (fun h239 => ?_)
      · exfalso; omega
      · skip
        refine xp_aload_n rfl rfl ?_
        refine xp_aload_n rfl rfl ?_
        refine xp_gfa rfl rfl (by decide) (by decide) (by first | assumption | exact hL.t rfl) (by first | assumption | exact hL.r rfl | exact hL.2.2.2.2.2) ?_
        refine xp_iload_n rfl rfl ?_
        refine xp_iald rfl (by first | assumption | exact hL.t rfl) (by omega) (by omega) ?_
        rw [r216]
        refine xp_iv rfl rfl (Nat.le_of_ble_eq_true rfl) (by decide) (by decide) (by decide) (Nat.le_of_ble_eq_true rfl) rfl (xrcv1 (by decide) (by first | assumption | exact hL.t rfl)) (g1) rfl ?_
        refine xp_iinc rfl rfl (by decide) (nI_inc _) ?_
        refine xp_goto 234 rfl (by decide) ?_
        refine xp_weak [(0, .ref 189), (1, .int (nI q)), (2, .int (nI (i + 1)))] (xle_cons rfl (xle_cons rfl (xle_cons rfl (xle_nil _)))) (by simp [xnd]) ?_
        exact hih
    · rw [if_neg hlt] at hF2
      rw [hF2] at hN r36 hlt
      have hQ2 := hQ B hN
      rw [show F.1 (w + 2) 7 - i = 0 by omega, show osB (F.1 (w + 9)) F w i 0 = [] from rfl, List.append_nil] at hQ2
      refine xp_iload_n rfl rfl ?_
      refine xp_aload_n rfl rfl ?_
      refine xp_gfi rfl rfl (by decide) (by decide) (by first | assumption | exact hL.t rfl) ?_
      rw [r36]
      refine xp_icge 258 rfl (by decide) (by omega) (by omega) (fun h239 => ?_) (fun h239 => ?_)
      · skip
        refine xp_weak [(0, .ref 189), (1, .int (nI q))] (xle_cons rfl (xle_cons rfl (xle_nil _))) (by simp [xnd]) ?_
        exact hQ2
      · exfalso; omega
theorem m159b {z : Nat} {T : Nat → Option xT} {R : Nat → Nat → Option Nat} {B : xQ} {w : Nat} (hL : xLay T R w) (h0 : B.1 189 16 = 0) : xF 159 [.ref 189] (xm z T R B) (.inr (some (.int (nI 0))), xm z T R (xsI B 189 14 1)) := by
  refine xF_eq (xF_p (Nat.le_of_ble_eq_true rfl) ?_)
  refine xp_aload_n rfl rfl ?_
  refine xp_gfi rfl rfl (by decide) (by decide) (by first | assumption | exact hL.t rfl) ?_
  rw [h0]
  refine xp_ifne 13 rfl (by decide) (by omega) (fun h4 => ?_) (fun h4 => ?_)
  · exfalso; omega
  · skip
    refine xp_aload_n rfl rfl ?_
    refine xp_iconst (n := 1) rfl (by decide) ?_
    refine xp_iv rfl rfl (Nat.le_of_ble_eq_true rfl) (by decide) (by decide) (by decide) (Nat.le_of_ble_eq_true rfl) rfl (xrcv1 (by decide) (by first | assumption | exact hL.t rfl)) (m113 hL) rfl ?_
    refine xp_ireturn rfl (by decide) (by decide) (by decide) ?_
    rfl
theorem m159 {z : Nat} {T : Nat → Option xT} {R : Nat → Nat → Option Nat} {B : xQ} {A F : xQ} {w cs : Nat} (hL : xLay T R w) (hc : COk w A) (hR : Rel w A B) (hn : A.1 w 2 ≠ 0) (hFe : aFind w A = F) (hcF : COk w F) (hf : FInv w F) (ha : Agr w A F) (hcs : cF (B.1 191) (B.1 193) (B.1 194) (B.1 195) 6 0 0 % 256 = cs) (hnf : ∀ f, f < 6 → B.1 191 f ≤ 30) : ∃ B2, xF 159 [.ref 189] (xm z T R B) (.inr (some (.int (nI (wBs w F cs).length))), xm z T R (wM B2 (wBs w F cs))) ∧ NR w F (xsI B 189 14 0) B2 := by
  have hW := hL.w hL.1
  have hc3 := hc.cnt
  have e16 : B.1 189 16 = 1 := by rw [hR.2.2.1.2.2.2.2.2.2.1, if_neg hn]
  have hR0 : Rel w F (xsI B 189 14 0) := (hR.thr hc).agr hc ha
  have hb0 : ∀ a j, (a ≠ 189 ∨ j ≠ 14) → (xsI B 189 14 0).1 a j = B.1 a j := fun a j q => xsI_ne q
  have hgB : ∃ B0, B0 = xsI B 189 14 0 := ⟨_, rfl⟩
  obtain ⟨B0, hB0⟩ := hgB
  rw [← hB0] at hR0 hb0 ⊢
  obtain ⟨S00, -⟩ := begin_fd w A
  have S0 := S00.to ha
  have hNB : NR w (aBegin w A) B0 (xit (fun i B => xsI B 215 i 4294967295) 24 0 (xsI B0 189 36 0)) := by
    obtain ⟨z1, z2⟩ := xit_fill 215 4294967295 24 0 (xsI B0 189 36 0)
    have b7 : (aBegin w A).1 (w + 2) 7 = 0 := xsI_eq
    refine ⟨?_, fun o ho => ?_, fun q hq => ?_, fun a j q1 q2 q3 => ?_, z1⟩
    · rw [z2, if_neg (by omega), xsI_eq, b7]
    · rw [z2, if_pos ⟨rfl, by omega, by omega⟩]
      unfold aBegin
      obtain ⟨y1, y2⟩ := xit_fill (w + 9) 4294967295 24 0 A
      rw [xsI_ne (by omega), y2, if_pos ⟨rfl, by omega, by omega⟩]
    · omega
    · rw [z2, if_neg (by omega), xsI_ne (by omega)]
  have hMR : aMeetR w (aBegin w A) = xit (gT w) (F.1 w 2) 0 (aBegin w A) := by
    unfold aMeetR
    rw [S0.1.ww]
    rfl
  have hFb : aBfs w 24 0 (xit (gT w) (F.1 w 2) 0 (aBegin w A)) = F := by rw [← hMR]; exact hFe
  obtain ⟨S1, X1⟩ := gT_fd hW hcF.2.1 (m := F.1 w 2) (i := 0) (by omega) S0
  have hxR : Ext w (xit (gT w) (F.1 w 2) 0 (aBegin w A)) F := by have := bfs_ext hcF.2.1 24 0 _ S1; rw [hFb] at this; exact this
  generalize aBegin w A = C0 at *
  obtain ⟨u1, u2, u3, u4⟩ := hR0.2.2.1
  have h3 := hcF.cnt
  have hfc := hf.fc2
  have n1 := ssB_len (num := F.1 (w + 9)) (fun t ht => hcF.st ht) (F.1 w 2) 0 (by omega)
  have n2 := wB_len (cs := cs) hcF hf
  have hg : ∃ L1, L1 = (((((((([] ++ [83 % 256]) ++ [78 % 256]) ++ [1 % 256]) ++ [cs % 256]) ++ [F.1 w 3 % 256]) ++ [F.1 w 4 % 256]) ++ [F.1 w 2 % 256]) ++ ssB (F.1 (w + 9)) F w 0 (F.1 w 2)) := ⟨_, rfl⟩
  obtain ⟨L1, hL1⟩ := hg
  have n3 : L1.length ≤ 7 + 512 * F.1 w 2 := by rw [hL1]; simp only [List.length_append, List.length_cons, List.length_nil]; omega
  have hL2 : L1 ++ (F.1 (w + 2) 7 :: osB (F.1 (w + 9)) F w 0 (F.1 (w + 2) 7)) = wB w F cs := by
    unfold wB
    rw [hL1, show F.1 (w + 2) 7 % 256 = F.1 (w + 2) 7 by omega]
    simp only [List.append_assoc, List.cons_append, List.nil_append]
  have hap : (L1 ++ [0 % 256]) ++ osB (F.1 (w + 9)) F w 0 (F.1 (w + 2) 7 - 0) = L1 ++ (0 % 256 :: osB (F.1 (w + 9)) F w 0 (F.1 (w + 2) 7)) := by
    rw [List.append_assoc]
    rfl
  refine xF_w (xF_p (Nat.le_of_ble_eq_true rfl) ?_)
  refine xp_aload_n rfl rfl ?_
  refine xp_gfi rfl rfl (by decide) (by decide) (by first | assumption | exact hL.t rfl) ?_
  rw [e16]
  refine xp_ifne 13 rfl (by decide) (by omega) (fun h4 => ?_) (fun h4 => ?_)
  · skip
    refine xp_aload_n rfl rfl ?_
    refine xp_iconst (n := 0) rfl (by decide) ?_
    refine xp_pfi rfl rfl (by decide) (by decide) (by decide) (by first | assumption | exact hL.t rfl) ?_
    rw [← hB0]
    refine xp_aload_n rfl rfl ?_
    refine xp_iconst (n := 0) rfl (by decide) ?_
    refine xp_pfi rfl rfl (by decide) (by decide) (by decide) (by first | assumption | exact hL.t rfl) ?_
    rw [wM_nil]
    refine xp_aload_n rfl rfl ?_
    refine xp_iconst (n := 0) rfl (by decide) ?_
    refine xp_pfi rfl rfl (by decide) (by decide) (by decide) (by first | assumption | exact hL.t rfl) ?_
    rw [wM_xsI (by omega) (by omega)]
    refine xp_iconst (n := 0) rfl (by decide) ?_
    refine xp_istore_n rfl (by decide) ?_
    refine xp_weak [(0, .ref 189), (1, .int (nI 0))] (xle_cons rfl (xle_cons rfl (xle_nil _))) (by simp [xnd]) ?_
    refine l159a hL 24 0 _ (by omega) ?_
    generalize xit (fun i B => xsI B 215 i 4294967295) 24 0 (xsI B0 189 36 0) = B1 at hNB ⊢
    have ef : ∀ l a, (190 ≤ a ∧ a ≤ 213) → (wM B1 l).1 a = B.1 a := fun l a q => funext fun j => by rw [hNB.r _ _ _ (by omega) (by omega) (by omega) (by omega)]; exact hb0 _ _ (by omega)
    have hcm : ∀ l, xF 119 [.ref 189] (xm z T R (wM B1 l)) (.inr (some (.int (nI cs))), xm z T R (wM B1 l)) := fun l => by have := m119 (z := z) (B := wM B1 l) hL (fun f hf => by rw [ef _ _ (by omega)]; exact hnf f hf); rw [ef _ _ (by omega), ef _ _ (by omega), ef _ _ (by omega), ef _ _ (by omega), hcs] at this; exact this
    have r9 : ∀ l, (wM B1 l).1 189 9 = F.1 w 2 := fun l => by rw [hNB.r _ _ _ (by omega) (by omega) (by omega) (by omega)]; exact u1
    have r10 : ∀ l, (wM B1 l).1 189 10 = F.1 w 3 := fun l => by rw [hNB.r _ _ _ (by omega) (by omega) (by omega) (by omega)]; exact u2
    have r11 : ∀ l, (wM B1 l).1 189 11 = F.1 w 4 := fun l => by rw [hNB.r _ _ _ (by omega) (by omega) (by omega) (by omega)]; exact u3
    refine xp_aload_n rfl rfl ?_
    refine xp_bipush (n := 83) rfl (by decide) ?_
    refine xp_iv rfl rfl (Nat.le_of_ble_eq_true rfl) (by decide) (by decide) (by decide) (Nat.le_of_ble_eq_true rfl) rfl (xrcv1 (by decide) (by first | assumption | exact hL.t rfl)) (m152 hL (by (try simp only [List.length_append, List.length_cons, List.length_nil]); omega)) rfl ?_
    refine xp_aload_n rfl rfl ?_
    refine xp_bipush (n := 78) rfl (by decide) ?_
    refine xp_iv rfl rfl (Nat.le_of_ble_eq_true rfl) (by decide) (by decide) (by decide) (Nat.le_of_ble_eq_true rfl) rfl (xrcv1 (by decide) (by first | assumption | exact hL.t rfl)) (m152 hL (by (try simp only [List.length_append, List.length_cons, List.length_nil]); omega)) rfl ?_
    refine xp_aload_n rfl rfl ?_
    refine xp_iconst (n := 1) rfl (by decide) ?_
    refine xp_iv rfl rfl (Nat.le_of_ble_eq_true rfl) (by decide) (by decide) (by decide) (Nat.le_of_ble_eq_true rfl) rfl (xrcv1 (by decide) (by first | assumption | exact hL.t rfl)) (m152 hL (by (try simp only [List.length_append, List.length_cons, List.length_nil]); omega)) rfl ?_
    refine xp_aload_n rfl rfl ?_
    refine xp_aload_n rfl rfl ?_
    refine xp_iv rfl rfl (Nat.le_of_ble_eq_true rfl) (by decide) (by decide) (by decide) (Nat.le_of_ble_eq_true rfl) rfl (xrcv1 (by decide) (by first | assumption | exact hL.t rfl)) (hcm _) rfl ?_
    refine xp_iv rfl rfl (Nat.le_of_ble_eq_true rfl) (by decide) (by decide) (by decide) (Nat.le_of_ble_eq_true rfl) rfl (xrcv1 (by decide) (by first | assumption | exact hL.t rfl)) (m152 hL (by (try simp only [List.length_append, List.length_cons, List.length_nil]); omega)) rfl ?_
    refine xp_aload_n rfl rfl ?_
    refine xp_aload_n rfl rfl ?_
    refine xp_gfi rfl rfl (by decide) (by decide) (by first | assumption | exact hL.t rfl) ?_
    rw [r10]
    refine xp_iv rfl rfl (Nat.le_of_ble_eq_true rfl) (by decide) (by decide) (by decide) (Nat.le_of_ble_eq_true rfl) rfl (xrcv1 (by decide) (by first | assumption | exact hL.t rfl)) (m152 hL (by (try simp only [List.length_append, List.length_cons, List.length_nil]); omega)) rfl ?_
    refine xp_aload_n rfl rfl ?_
    refine xp_aload_n rfl rfl ?_
    refine xp_gfi rfl rfl (by decide) (by decide) (by first | assumption | exact hL.t rfl) ?_
    rw [r11]
    refine xp_iv rfl rfl (Nat.le_of_ble_eq_true rfl) (by decide) (by decide) (by decide) (Nat.le_of_ble_eq_true rfl) rfl (xrcv1 (by decide) (by first | assumption | exact hL.t rfl)) (m152 hL (by (try simp only [List.length_append, List.length_cons, List.length_nil]); omega)) rfl ?_
    refine xp_aload_n rfl rfl ?_
    refine xp_aload_n rfl rfl ?_
    refine xp_gfi rfl rfl (by decide) (by decide) (by first | assumption | exact hL.t rfl) ?_
    rw [r9]
    refine xp_iv rfl rfl (Nat.le_of_ble_eq_true rfl) (by decide) (by decide) (by decide) (Nat.le_of_ble_eq_true rfl) rfl (xrcv1 (by decide) (by first | assumption | exact hL.t rfl)) (m152 hL (by (try simp only [List.length_append, List.length_cons, List.length_nil]); omega)) rfl ?_
    refine xp_iconst (n := 0) rfl (by decide) ?_
    refine xp_istore_n rfl (by decide) ?_
    refine xp_weak [(0, .ref 189), (1, .int (nI 0))] (xle_cons rfl (xle_cons rfl (xle_nil _))) (by simp [xnd]) ?_
    refine l159c hL hW hcF hR0 (F.1 w 2) 0 C0 B1 _ (by omega) S0 hNB hxR (by (try simp only [List.length_append, List.length_cons, List.length_nil]); omega) (fun B2 h2 => ?_)
    rw [← hL1]
    refine xp_aload_n rfl rfl ?_
    refine xp_gfi rfl rfl (by decide) (by decide) (by first | assumption | exact hL.t rfl) ?_
    rw [wM_sz]
    refine xp_istore_n rfl (by decide) ?_
    refine xp_aload_n rfl rfl ?_
    refine xp_iconst (n := 0) rfl (by decide) ?_
    refine xp_iv rfl rfl (Nat.le_of_ble_eq_true rfl) (by decide) (by decide) (by decide) (Nat.le_of_ble_eq_true rfl) rfl (xrcv1 (by decide) (by first | assumption | exact hL.t rfl)) (m152 hL (by (try simp only [List.length_append, List.length_cons, List.length_nil]); omega)) rfl ?_
    refine xp_iconst (n := 0) rfl (by decide) ?_
    refine xp_istore_n rfl (by decide) ?_
    refine xp_weak [(0, .ref 189), (1, .int (nI L1.length)), (2, .int (nI 0))] (xle_cons rfl (xle_cons rfl (xle_cons rfl (xle_nil _)))) (by simp [xnd]) ?_
    refine l159d hL hcF hR0 hf 24 0 _ B2 _ (by omega) S1 h2 hFb (by (try simp only [List.length_append, List.length_cons, List.length_nil]); omega) (fun B3 h3 => ?_)
    rw [hap]
    have r36 : ∀ l, (wM B3 l).1 189 36 = F.1 (w + 2) 7 := fun l => by rw [wM_ne (by omega) (by omega)]; exact h3.1
    refine xp_aload_n rfl rfl ?_
    refine xp_gfa rfl rfl (by decide) (by decide) (by first | assumption | exact hL.t rfl) (by first | assumption | exact hL.r rfl | exact hL.2.2.2.2.2) ?_
    refine xp_iload_n rfl rfl ?_
    refine xp_aload_n rfl rfl ?_
    refine xp_gfi rfl rfl (by decide) (by decide) (by first | assumption | exact hL.t rfl) ?_
    rw [r36]
    refine xp_iast rfl (by first | assumption | exact hL.t rfl) (by omega) (by omega) ?_
    rw [wM_set, hL2]
    refine xp_aload_n rfl rfl ?_
    refine xp_aload_n rfl rfl ?_
    refine xp_aload_n rfl rfl ?_
    refine xp_gfi rfl rfl (by decide) (by decide) (by first | assumption | exact hL.t rfl) ?_
    rw [wM_sz]
    refine xp_iv rfl rfl (Nat.le_of_ble_eq_true rfl) (by decide) (by decide) (by decide) (Nat.le_of_ble_eq_true rfl) rfl (xrcv1 (by decide) (by first | assumption | exact hL.t rfl)) (m158 hL (by omega)) rfl ?_
    rw [show sm ((wM B3 (wB w F cs)).1 214) 0 (wB w F cs).length = lsm (wB w F cs) from sm_congr _ _ (fun j _ q => wM_get (by omega))]
    refine xp_iv rfl rfl (Nat.le_of_ble_eq_true rfl) (by decide) (by decide) (by decide) (Nat.le_of_ble_eq_true rfl) rfl (xrcv1 (by decide) (by first | assumption | exact hL.t rfl)) (m152 hL (by omega)) rfl ?_
    refine xp_aload_n rfl rfl ?_
    refine xp_gfi rfl rfl (by decide) (by decide) (by first | assumption | exact hL.t rfl) ?_
    rw [wM_sz]
    refine xp_ireturn rfl (by decide) (by decide) (by decide) ?_
    exact ⟨B3, rfl, h3⟩
  · exfalso; omega
theorem getD_mem {l : List Nat} {i : Nat} (h : i < l.length) : l.getD i 0 ∈ l := by
  induction l generalizing i with
  | nil => exact absurd h (Nat.not_lt_zero i)
  | cons x l ih => cases i with
    | zero => exact List.mem_cons_self
    | succ i => exact List.mem_cons_of_mem x (ih (Nat.lt_of_succ_lt_succ h))
theorem pub_snapshot : Pub 9 159 (mpO [(1, 1)]) [] := by
  refine Pub.mk rfl rfl gC0 gM0 (fun z T R w n A hn hI => ?_)
  obtain ⟨hL, hr, hc, hT, hR, h3, h4⟩ := hI
  have hW := hL.w hL.1
  have hw := hc.1
  by_cases h0 : A.1 w 2 = 0
  · refine Or.inl ⟨1, by decide, c9b hL hc h0, fun B hB => ?_⟩
    exact ⟨_, _, m159b hL (by rw [hB.2.2.1.2.2.2.2.2.2.1, if_pos h0]), by rw [xsI_eq]; rfl, hB.thr hc⟩
  · obtain ⟨⟨⟨ha, hf⟩, -⟩, -⟩ := find_fd hW hc.2.1
    have hcF := hc.agr ha
    have m9 := c9 (z := z) hL hc h0 rfl hcF hf
    have hT2 := hT.agr ha
    have e3 : (aFind w A).1 11 3 = A.1 11 3 := ha.2 _ _ (by omega) (by omega) (by omega)
    have e4 : (aFind w A).1 11 4 = A.1 11 4 := ha.2 _ _ (by omega) (by omega) (by omega)
    have hcs : ∀ B, Rel w A B → cF (B.1 191) (B.1 193) (B.1 194) (B.1 195) 6 0 0 % 256 = cF (A.1 3) (A.1 4) (A.1 5) (A.1 6) 6 0 0 % 256 := fun B hB => by
      congr 1
      refine cF_congr 6 0 0 (fun g q1 q2 => ?_)
      obtain ⟨p1, p2, p3, p4, p5⟩ := hB.1 g (by omega)
      refine ⟨p2, fun j hj => ?_⟩
      rw [Nat.mul_comm 30 g]
      have := p4 j hj
      rw [Nat.mul_comm 30 g] at this
      exact this
    generalize hFe2 : aFind w A = F at *
    have hlen := wB_len (cs := cF (A.1 3) (A.1 4) (A.1 5) (A.1 6) 6 0 0 % 256) hcF hf
    have hl2 : (wBs w F (cF (A.1 3) (A.1 4) (A.1 5) (A.1 6) 6 0 0 % 256)).length ≤ 2265 := by
      unfold wBs
      rw [List.length_append]
      show _ + 1 ≤ _
      omega
    have h256 := wBs_256 (w := w) (A := F) (cs := cF (A.1 3) (A.1 4) (A.1 5) (A.1 6) 6 0 0 % 256)
    generalize cF (A.1 3) (A.1 4) (A.1 5) (A.1 6) 6 0 0 % 256 = cs at *
    refine Or.inr ⟨_, _, ⟨_, Or.inl rfl⟩, m9, hcF.oth (fun a j q => wA_ne (by omega) (by omega)) (fun _ _ _ => rfl), hT2.oth hcF.cnt hcF.2.2.2.2.2 (fun a j q => wA_ne (by omega) (by omega)), ?_, ?_, fun B hB => ?_⟩
    · rw [wA_ne (by omega) (by omega), e3]; omega
    · rw [wA_ne (by omega) (by omega), e4]; omega
    · obtain ⟨B2, g1, g2⟩ := m159 (z := z) hL hc hB h0 (hFe2) hcF hf ha (hcs B hB) (fun f hf => by rw [(hB.1 f hf).2.1]; exact (hc.2.2.1 f hf).2.1)
      have hR0 : Rel w F (xsI B 189 14 0) := (hB.thr hc).agr hc ha
      refine ⟨_, g1, by rw [g2.r _ _ _ (by omega) (by omega) (by omega) (by omega), xsI_eq], ?_⟩
      refine hR0.img hcF (fun a j q1 q2 q3 q4 => wA_ne (by omega) (by omega)) (fun _ _ _ => rfl) (fun a j q1 q2 q3 => ?_) (fun a j _ => ?_) ⟨?_, ?_, ?_, fun i hi => ?_⟩
      · unfold relB at q1
        exact g2.r _ _ _ (by omega) (by omega) (by omega) (by omega)
      · show B2.2 a j = _
        rw [g2.2.2.2.2]
      · rw [wM_sz, wA_sz]
      · rw [wA_sz]; omega
      · rw [g2.r _ _ _ (by omega) (by omega) (by omega) (by omega), wA_ne (by omega) (by omega)]; exact hR0.2.1.2.2.1
      · rw [wA_sz] at hi
        rw [wM_get hi, wA_get hi]
        refine ⟨rfl, ?_⟩
        exact h256 _ (getD_mem hi)
