-- snapshot: the class's whole; the reference's small methods
theorem COk.agr {w : Nat} {A F : xQ} (h : COk w A) (ha : Agr w A F) : COk w F := by
  obtain ⟨h0, ⟨w1, w2, w3⟩, g2, g3, g4, g5⟩ := h
  obtain ⟨a2, a1⟩ := ha
  have e : ∀ a j, a ≠ w + 9 → a ≠ w + 10 → a ≠ w + 2 → F.1 a j = A.1 a j := fun a j q1 q2 q3 => a1 a j q1 q2 (Or.inl q3)
  have ehp : ∀ o, F.1 (w + 3) o = A.1 (w + 3) o := fun o => e _ _ (by omega) (by omega) (by omega)
  refine ⟨h0, ⟨by rw [e w 2 (by omega) (by omega) (by omega)]; exact w1, fun u hu => ?_, fun o ho => ?_⟩, g2.same (fun a j _ _ => e _ _ (by omega) (by omega) (by omega)), g3.same (a1 _ _ (by omega) (by omega) (by omega)) ehp, fun u hu i hi => ?_, by rw [e w 3 (by omega) (by omega) (by omega)]; exact g5⟩
  · rw [e w 2 (by omega) (by omega) (by omega)] at hu
    exact (w2 u hu).away (fun a j _ _ => e a j (by omega) (by omega) (by omega)) (fun a j _ _ => by rw [a2]) (fun o _ => ehp o)
  · exact (w3 o ho).same ehp (e _ _ (by omega) (by omega) (by omega)) (e _ _ (by omega) (by omega) (by omega)) (fun j => e _ _ (by omega) (by omega) (by omega)) (fun j => by rw [a2])
  · rw [e w 2 (by omega) (by omega) (by omega)] at hu
    rw [e _ 3 (by omega) (by omega) (by omega)] at hi
    rw [e _ 2 (by omega) (by omega) (by omega)]
    exact g4 u hu i hi
theorem TOk.agr {w : Nat} {A F : xQ} (h : TOk w A) (ha : Agr w A F) : TOk w F := by
  obtain ⟨a2, a1⟩ := ha
  have e : ∀ a j, a ≠ w + 9 → a ≠ w + 10 → a ≠ w + 2 → F.1 a j = A.1 a j := fun a j q1 q2 q3 => a1 a j q1 q2 (Or.inl q3)
  intro hn
  rw [e w 2 (by omega) (by omega) (by omega)] at hn ⊢
  obtain ⟨g1, g2, g3⟩ := h hn
  rw [e w 3 (by omega) (by omega) (by omega), e w 4 (by omega) (by omega) (by omega)]
  refine ⟨g1, g2, fun ⟨t, q1, q2⟩ => ?_⟩
  rw [e w 2 (by omega) (by omega) (by omega)] at q1
  rw [e _ 2 (by omega) (by omega) (by omega)] at q2
  have := g3 ⟨t, q1, q2⟩
  unfold aSt at this ⊢
  rw [e w 3 (by omega) (by omega) (by omega), e _ 2 (by omega) (by omega) (by omega)]
  exact this
theorem Rel.agr {w : Nat} {A B F : xQ} (h : Rel w A B) (hc : COk w A) (ha : Agr w A F) : Rel w F B := by
  have h0 := hc.1
  have hc3 := hc.cnt
  obtain ⟨r1, r2, r3, r4, r5⟩ := h
  obtain ⟨a2, a1⟩ := ha
  have e : ∀ a j, a ≠ w + 9 → a ≠ w + 10 → a ≠ w + 2 → F.1 a j = A.1 a j := fun a j q1 q2 q3 => a1 a j q1 q2 (Or.inl q3)
  refine ⟨r1.same (fun a j _ _ => e a j (by omega) (by omega) (by omega)) (fun a j _ _ => rfl), r2.same (fun j => e _ _ (by omega) (by omega) (by omega)) (fun j => e _ _ (by omega) (by omega) (by omega)) (e _ _ (by omega) (by omega) (by omega)) rfl rfl (fun _ => rfl), r3.same (fun j => e _ _ (by omega) (by omega) (by omega)) (a1 _ _ (by omega) (by omega) (by omega)) (fun j => e _ _ (by omega) (by omega) (by omega)) (fun j => by rw [a2]) (fun _ _ _ _ => rfl) (fun _ => rfl), fun u hu => ?_, fun o ho => ?_⟩
  · rw [e w 2 (by omega) (by omega) (by omega)] at hu
    exact (r4 u hu).away (by omega) (hc.st hu) (fun a j _ _ => e a j (by omega) (by omega) (by omega)) (fun a j _ _ => by rw [a2]) (fun _ _ _ => rfl) (fun _ _ _ _ _ _ => rfl) (fun _ _ => rfl) (fun _ _ => rfl)
  · exact (r5 o ho).away (hc.2.1.2.2 o ho) (fun a _ _ => e a _ (by omega) (by omega) (by omega)) (fun i _ => e _ _ (by omega) (by omega) (by omega)) (fun i _ => by rw [a2]) (fun _ _ _ _ => rfl) (fun _ _ => rfl) (fun _ _ => rfl)
/-- the image of the world: all but its last byte -/
def wB (w : Nat) (A : xQ) (cs : Nat) : List Nat := 83 % 256 :: 78 % 256 :: 1 % 256 :: cs % 256 :: A.1 w 3 % 256 :: A.1 w 4 % 256 :: A.1 w 2 % 256 :: (ssB (A.1 (w + 9)) A w 0 (A.1 w 2) ++ (A.1 (w + 2) 7 % 256 :: osB (A.1 (w + 9)) A w 0 (A.1 (w + 2) 7)))
def lsm (l : List Nat) : Nat := sm (fun j => l.getD j 0) 0 l.length
/-- the image whole -/
def wBs (w : Nat) (A : xQ) (cs : Nat) : List Nat := wB w A cs ++ [lsm (wB w A cs) % 256 % 256]
theorem wB_len {w cs : Nat} {A : xQ} (hc : COk w A) (hf : FInv w A) : (wB w A cs).length ≤ 2264 := by
  unfold wB
  have h3 := hc.cnt
  have h1 := ssB_len (num := A.1 (w + 9)) (fun t ht => hc.st ht) (A.1 w 2) 0 (by omega)
  have hfc := hf.fc2
  have h2 := osB_len (num := A.1 (w + 9)) (w := w) (n := A.1 (w + 2) 7) (fun q hq => (hc.2.1.2.2 _ (hf.2.2 q hq).1).sz3 (hf.2.2 q hq).2.2) (A.1 (w + 2) 7) 0 (by omega)
  simp only [List.length_append, List.length_cons]
  omega
theorem wBs_256 {w cs : Nat} {A : xQ} : ∀ x, x ∈ wBs w A cs → x < 256 := by
  intro x h
  unfold wBs wB at h
  simp only [List.mem_append, List.mem_cons, List.not_mem_nil, or_false] at h
  rcases h with (h | h | h | h | h | h | h | h | h | h) | h
  · omega
  · omega
  · omega
  · omega
  · omega
  · omega
  · omega
  · exact ssB_256 _ _ _ h
  · omega
  · exact osB_256 _ _ _ h
  · omega
theorem l104 {z : Nat} {T : Nat → Option xT} {R : Nat → Nat → Option Nat} {A : xQ} {w : Nat} {Q : xR → Prop} (hL : xLay T R w) (hW : xW0 T R w) (hwa : w = 12 ∨ w = 103) (hk : WOk w A) : ∀ (m i : Nat) (l : List Nat), i + m = A.1 w 2 → l.length + 512 * m ≤ 2400 → xP 104 109 [(0, .ref 101), (1, .ref w)] [] 0 0 (xm z T R (wA A (l ++ ssB (A.1 (w + 9)) A w i m))) Q → xP 104 81 [(0, .ref 101), (1, .ref w), (3, .int (nI i))] [] 0 0 (xm z T R (wA A l)) Q := by
  have rk := wA_r (A := A)
  obtain ⟨w1, w2, w3, w4, hH, hSt⟩ := id hW
  have h3 := hk.1
  intro m
  induction m with
  | zero =>
    intro i l hi hl hQ
    rw [show ssB (A.1 (w + 9)) A w i 0 = [] from rfl, List.append_nil] at hQ
    refine xp_iload_n rfl rfl ?_
    refine xp_aload_n rfl rfl ?_
    refine xp_gfi rfl rfl (by decide) (by decide) (by first | assumption | exact hL.t rfl) ?_
    rw [rk _ w 2 (by omega) (by omega)]
    refine xp_icge 109 rfl (by decide) (by omega) (by omega) (fun h86 => ?_) (fun h86 => ?_)
    · skip
      refine xp_weak [(0, .ref 101), (1, .ref w)] (xle_cons rfl (xle_cons rfl (xle_nil _))) (by simp [xnd]) ?_
      exact hQ
    · exfalso; omega
  | succ m ih =>
    intro i l hi hl hQ
    obtain ⟨g1, g2⟩ := hSt i (by omega)
    have hi3 : i < 3 := by omega
    have hki := hk.2.1 i (by omega)
    have hsa : w + 11 + 25 * i + 25 < 99 ∨ 103 < w + 11 + 25 * i := by clear hl hi hki hQ ih rk g1 g2; omega
    have hlb : l.length + 512 ≤ 2400 := Nat.le_trans (Nat.add_le_add_left (Nat.le_mul_of_pos_right 512 (Nat.succ_pos m)) l.length) hl
    have hcal := c105 (z := z) (l := l) hL hW hwa g2 hsa hki hlb
    have hln := sB_len (num := A.1 (w + 9)) hki
    rw [show ssB (A.1 (w + 9)) A w i (m + 1) = sB (A.1 (w + 9)) A (w + 11 + 25 * i) ++ ssB (A.1 (w + 9)) A w (i + 1) m from rfl, ← List.append_assoc] at hQ
    refine xp_iload_n rfl rfl ?_
    refine xp_aload_n rfl rfl ?_
    refine xp_gfi rfl rfl (by decide) (by decide) (by first | assumption | exact hL.t rfl) ?_
    rw [rk _ w 2 (by omega) (by omega)]
    refine xp_icge 109 rfl (by decide) (by omega) (by omega) (fun h86 => ?_) (fun h86 => ?_)
    · exfalso; omega
    · skip
      refine xp_aload_n rfl rfl ?_
      refine xp_aload_n rfl rfl ?_
      refine xp_gfa rfl rfl (by decide) (by decide) (by first | assumption | exact hL.t rfl) (by first | assumption | exact hL.r rfl | exact hL.2.2.2.2.2) ?_
      refine xp_iload_n rfl rfl ?_
      refine xp_aald rfl (by first | assumption | exact hL.t rfl) (by decide) (by decide) (by omega) (by omega) (by first | assumption | exact hL.r rfl | exact hL.2.2.2.2.2) ?_
      refine xp_aload_n rfl rfl ?_
      refine xp_gfa rfl rfl (by decide) (by decide) (by first | assumption | exact hL.t rfl) (by first | assumption | exact hL.r rfl | exact hL.2.2.2.2.2) ?_
      refine xp_iv rfl rfl (Nat.le_of_ble_eq_true rfl) (by decide) (by decide) (by decide) (Nat.le_of_ble_eq_true rfl) rfl (xrcv1 (by decide) (by first | assumption | exact hL.t rfl)) (hcal) rfl ?_
      refine xp_iinc rfl rfl (by decide) (nI_inc _) ?_
      refine xp_goto 81 rfl (by decide) ?_
      refine xp_weak [(0, .ref 101), (1, .ref w), (3, .int (nI (i + 1)))] (xle_cons rfl (xle_cons rfl (xle_cons rfl (xle_nil _)))) (by simp [xnd]) ?_
      exact ih (i + 1) _ (by omega) (by rw [List.length_append]; omega) hQ
theorem c104 {z : Nat} {T : Nat → Option xT} {R : Nat → Nat → Option Nat} {A : xQ} {w cs : Nat} {F : xQ} (hL : xLay T R w) (hW : xW0 T R w) (hwa : w = 12 ∨ w = 103) (hk : WOk w A) (hFe : F = aFind w A) (hcF : COk w F) (hf : FInv w F) : xF 104 [.ref 101, .ref w, .int (nI cs)] (xm z T R A) (.inr none, xm z T R (wA F (wBs w F cs))) := by
  have hfi := c101 (z := z) hW hk
  rw [← hFe] at hfi
  obtain ⟨w1, w2, w3, w4, hH, hSt⟩ := id hW
  have hh1 := hH.1
  have rk := wA_r (A := F)
  have h3 := hcF.cnt
  have hfc := hf.fc2
  have n1 := ssB_len (num := F.1 (w + 9)) (fun t ht => hcF.st ht) (F.1 w 2) 0 (by omega)
  have n2 := wB_len (cs := cs) hcF hf
  have hl2 : ((((((([] ++ [83 % 256]) ++ [78 % 256]) ++ [1 % 256]) ++ [cs % 256]) ++ [F.1 w 3 % 256]) ++ [F.1 w 4 % 256]) ++ [F.1 w 2 % 256] ++ ssB (F.1 (w + 9)) F w 0 (F.1 w 2)) ++ (F.1 (w + 2) 7 % 256 :: osB (F.1 (w + 9)) F w 0 (F.1 (w + 2) 7)) = wB w F cs := by
    unfold wB
    simp only [List.append_assoc, List.cons_append, List.nil_append]
  have hsm : sm ((wA F (wB w F cs)).1 100) 0 (wB w F cs).length = lsm (wB w F cs) := sm_congr _ _ (fun j _ q => wA_get (by omega))
  have hfo : ∀ q, q < F.1 (w + 2) 7 → F.1 (w + 10) q < 24 ∧ F.1 (w + 3) (F.1 (w + 10) q) ≠ 0 := fun q hq => ⟨(hf.2.2 q hq).1, (hf.2.2 q hq).2.2⟩
  refine xF_eq (xF_p (Nat.le_of_ble_eq_true rfl) ?_)
  refine xp_aload_n rfl rfl ?_
  refine xp_iv rfl rfl (Nat.le_of_ble_eq_true rfl) (by decide) (by decide) (by decide) (Nat.le_of_ble_eq_true rfl) rfl (xrcv1 (by decide) (by first | assumption | exact hL.t rfl)) (hfi) rfl ?_
  refine xp_aload_n rfl rfl ?_
  refine xp_gfa rfl rfl (by decide) (by decide) (by first | assumption | exact hL.t rfl) (by first | assumption | exact hL.r rfl | exact hL.2.2.2.2.2) ?_
  refine xp_iconst (n := 0) rfl (by decide) ?_
  refine xp_pfi rfl rfl (by decide) (by decide) (by decide) (by first | assumption | exact hL.t rfl) ?_
  rw [wA_nil]
  refine xp_aload_n rfl rfl ?_
  refine xp_gfa rfl rfl (by decide) (by decide) (by first | assumption | exact hL.t rfl) (by first | assumption | exact hL.r rfl | exact hL.2.2.2.2.2) ?_
  refine xp_bipush (n := 83) rfl (by decide) ?_
  refine xp_iv rfl rfl (Nat.le_of_ble_eq_true rfl) (by decide) (by decide) (by decide) (Nat.le_of_ble_eq_true rfl) rfl (xrcv1 (by decide) (by first | assumption | exact hL.t rfl)) (c67w hL (by (try simp only [List.length_append, List.length_cons, List.length_nil]); omega)) rfl ?_
  refine xp_aload_n rfl rfl ?_
  refine xp_gfa rfl rfl (by decide) (by decide) (by first | assumption | exact hL.t rfl) (by first | assumption | exact hL.r rfl | exact hL.2.2.2.2.2) ?_
  refine xp_bipush (n := 78) rfl (by decide) ?_
  refine xp_iv rfl rfl (Nat.le_of_ble_eq_true rfl) (by decide) (by decide) (by decide) (Nat.le_of_ble_eq_true rfl) rfl (xrcv1 (by decide) (by first | assumption | exact hL.t rfl)) (c67w hL (by (try simp only [List.length_append, List.length_cons, List.length_nil]); omega)) rfl ?_
  refine xp_aload_n rfl rfl ?_
  refine xp_gfa rfl rfl (by decide) (by decide) (by first | assumption | exact hL.t rfl) (by first | assumption | exact hL.r rfl | exact hL.2.2.2.2.2) ?_
  refine xp_iconst (n := 1) rfl (by decide) ?_
  refine xp_iv rfl rfl (Nat.le_of_ble_eq_true rfl) (by decide) (by decide) (by decide) (Nat.le_of_ble_eq_true rfl) rfl (xrcv1 (by decide) (by first | assumption | exact hL.t rfl)) (c67w hL (by (try simp only [List.length_append, List.length_cons, List.length_nil]); omega)) rfl ?_
  refine xp_aload_n rfl rfl ?_
  refine xp_gfa rfl rfl (by decide) (by decide) (by first | assumption | exact hL.t rfl) (by first | assumption | exact hL.r rfl | exact hL.2.2.2.2.2) ?_
  refine xp_iload_n rfl rfl ?_
  refine xp_iv rfl rfl (Nat.le_of_ble_eq_true rfl) (by decide) (by decide) (by decide) (Nat.le_of_ble_eq_true rfl) rfl (xrcv1 (by decide) (by first | assumption | exact hL.t rfl)) (c67w hL (by (try simp only [List.length_append, List.length_cons, List.length_nil]); omega)) rfl ?_
  refine xp_aload_n rfl rfl ?_
  refine xp_gfa rfl rfl (by decide) (by decide) (by first | assumption | exact hL.t rfl) (by first | assumption | exact hL.r rfl | exact hL.2.2.2.2.2) ?_
  refine xp_aload_n rfl rfl ?_
  refine xp_gfi rfl rfl (by decide) (by decide) (by first | assumption | exact hL.t rfl) ?_
  rw [rk _ w 3 (by omega) (by omega)]
  refine xp_iv rfl rfl (Nat.le_of_ble_eq_true rfl) (by decide) (by decide) (by decide) (Nat.le_of_ble_eq_true rfl) rfl (xrcv1 (by decide) (by first | assumption | exact hL.t rfl)) (c67w hL (by (try simp only [List.length_append, List.length_cons, List.length_nil]); omega)) rfl ?_
  refine xp_aload_n rfl rfl ?_
  refine xp_gfa rfl rfl (by decide) (by decide) (by first | assumption | exact hL.t rfl) (by first | assumption | exact hL.r rfl | exact hL.2.2.2.2.2) ?_
  refine xp_aload_n rfl rfl ?_
  refine xp_gfi rfl rfl (by decide) (by decide) (by first | assumption | exact hL.t rfl) ?_
  rw [rk _ w 4 (by omega) (by omega)]
  refine xp_iv rfl rfl (Nat.le_of_ble_eq_true rfl) (by decide) (by decide) (by decide) (Nat.le_of_ble_eq_true rfl) rfl (xrcv1 (by decide) (by first | assumption | exact hL.t rfl)) (c67w hL (by (try simp only [List.length_append, List.length_cons, List.length_nil]); omega)) rfl ?_
  refine xp_aload_n rfl rfl ?_
  refine xp_gfa rfl rfl (by decide) (by decide) (by first | assumption | exact hL.t rfl) (by first | assumption | exact hL.r rfl | exact hL.2.2.2.2.2) ?_
  refine xp_aload_n rfl rfl ?_
  refine xp_gfi rfl rfl (by decide) (by decide) (by first | assumption | exact hL.t rfl) ?_
  rw [rk _ w 2 (by omega) (by omega)]
  refine xp_iv rfl rfl (Nat.le_of_ble_eq_true rfl) (by decide) (by decide) (by decide) (Nat.le_of_ble_eq_true rfl) rfl (xrcv1 (by decide) (by first | assumption | exact hL.t rfl)) (c67w hL (by (try simp only [List.length_append, List.length_cons, List.length_nil]); omega)) rfl ?_
  refine xp_iconst (n := 0) rfl (by decide) ?_
  refine xp_istore_n rfl (by decide) ?_
  refine xp_weak [(0, .ref 101), (1, .ref w), (3, .int (nI 0))] (xle_cons rfl (xle_cons rfl (xle_cons rfl (xle_nil _)))) (by simp [xnd]) ?_
  refine l104 hL hW hwa hcF.2.1 (F.1 w 2) 0 _ (by omega) (by (try simp only [List.length_append, List.length_cons, List.length_nil]); omega) ?_
  refine xp_aload_n rfl rfl ?_
  refine xp_aload_n rfl rfl ?_
  refine xp_gfa rfl rfl (by decide) (by decide) (by first | assumption | exact hL.t rfl) (by first | assumption | exact hL.r rfl | exact hL.2.2.2.2.2) ?_
  refine xp_iv rfl rfl (Nat.le_of_ble_eq_true rfl) (by decide) (by decide) (by decide) (Nat.le_of_ble_eq_true rfl) rfl (xrcv1 (by decide) (by first | assumption | exact hL.t rfl)) (c107 hL hW hwa hcF.2.1.2.2 hfc hfo (by (try simp only [List.length_append, List.length_cons, List.length_nil]); omega)) rfl ?_
  rw [hl2]
  refine xp_aload_n rfl rfl ?_
  refine xp_gfa rfl rfl (by decide) (by decide) (by first | assumption | exact hL.t rfl) (by first | assumption | exact hL.r rfl | exact hL.2.2.2.2.2) ?_
  refine xp_aload_n rfl rfl ?_
  refine xp_gfa rfl rfl (by decide) (by decide) (by first | assumption | exact hL.t rfl) (by first | assumption | exact hL.r rfl | exact hL.2.2.2.2.2) ?_
  refine xp_aload_n rfl rfl ?_
  refine xp_gfa rfl rfl (by decide) (by decide) (by first | assumption | exact hL.t rfl) (by first | assumption | exact hL.r rfl | exact hL.2.2.2.2.2) ?_
  refine xp_gfi rfl rfl (by decide) (by decide) (by first | assumption | exact hL.t rfl) ?_
  rw [wA_sz]
  refine xp_iv rfl rfl (Nat.le_of_ble_eq_true rfl) (by decide) (by decide) (by decide) (Nat.le_of_ble_eq_true rfl) rfl (xrcv1 (by decide) (by first | assumption | exact hL.t rfl)) (c69 hL (by omega)) rfl ?_
  rw [hsm]
  refine xp_iv rfl rfl (Nat.le_of_ble_eq_true rfl) (by decide) (by decide) (by decide) (Nat.le_of_ble_eq_true rfl) rfl (xrcv1 (by decide) (by first | assumption | exact hL.t rfl)) (c67w hL (by omega)) rfl ?_
  refine xp_return rfl (by decide) (by decide) (by decide) ?_
  rfl
theorem c9 {z : Nat} {T : Nat → Option xT} {R : Nat → Nat → Option Nat} {A : xQ} {w : Nat} {F : xQ} (hL : xLay T R w) (hc : COk w A) (hn : A.1 w 2 ≠ 0) (hFe : F = aFind w A) (hcF : COk w F) (hf : FInv w F) : xF 9 [.ref 0] (xm z T R A) (.inr (some (.int (nI (wBs w F (cF (A.1 3) (A.1 4) (A.1 5) (A.1 6) 6 0 0 % 256)).length))), xm z T R (wA F (wBs w F (cF (A.1 3) (A.1 4) (A.1 5) (A.1 6) 6 0 0 % 256)))) := by
  have hW := hL.w hL.1
  have w1 := hW.1
  have hem := c98 (z := z) (A := A) hW hc.cnt
  rw [if_neg hn] at hem
  have hcs := c77 (z := z) (A := A) hL (fun f hf => (hc.2.2.1 f hf).2.1)
  generalize cF (A.1 3) (A.1 4) (A.1 5) (A.1 6) 6 0 0 % 256 = cs at *
  refine xF_eq (xF_p (Nat.le_of_ble_eq_true rfl) ?_)
  refine xp_aload_n rfl rfl ?_
  refine xp_gfa rfl rfl (by decide) (by decide) (by first | assumption | exact hL.t rfl) (by first | assumption | exact hL.r rfl | exact hL.2.2.2.2.2) ?_
  refine xp_gfa rfl rfl (by decide) (by decide) (by first | assumption | exact hL.t rfl) (by first | assumption | exact hL.r rfl | exact hL.2.2.2.2.2) ?_
  refine xp_iv rfl rfl (Nat.le_of_ble_eq_true rfl) (by decide) (by decide) (by decide) (Nat.le_of_ble_eq_true rfl) rfl (xrcv1 (by decide) (by first | assumption | exact hL.t rfl)) (hem) rfl ?_
  refine xp_ifeq 21 rfl (by decide) (by omega) (fun h10 => ?_) (fun h10 => ?_)
  · skip
    refine xp_aload_n rfl rfl ?_
    refine xp_gfa rfl rfl (by decide) (by decide) (by first | assumption | exact hL.t rfl) (by first | assumption | exact hL.r rfl | exact hL.2.2.2.2.2) ?_
    refine xp_aload_n rfl rfl ?_
    refine xp_gfa rfl rfl (by decide) (by decide) (by first | assumption | exact hL.t rfl) (by first | assumption | exact hL.r rfl | exact hL.2.2.2.2.2) ?_
    refine xp_gfa rfl rfl (by decide) (by decide) (by first | assumption | exact hL.t rfl) (by first | assumption | exact hL.r rfl | exact hL.2.2.2.2.2) ?_
    refine xp_aload_n rfl rfl ?_
    refine xp_gfa rfl rfl (by decide) (by decide) (by first | assumption | exact hL.t rfl) (by first | assumption | exact hL.r rfl | exact hL.2.2.2.2.2) ?_
    refine xp_iv rfl rfl (Nat.le_of_ble_eq_true rfl) (by decide) (by decide) (by decide) (Nat.le_of_ble_eq_true rfl) rfl (xrcv1 (by decide) (by first | assumption | exact hL.t rfl)) (hcs) rfl ?_
    refine xp_iv rfl rfl (Nat.le_of_ble_eq_true rfl) (by decide) (by decide) (by decide) (Nat.le_of_ble_eq_true rfl) rfl (xrcv1 (by decide) (by first | assumption | exact hL.t rfl)) (c104 hL hW hL.1 hc.2.1 hFe hcF hf) rfl ?_
    refine xp_aload_n rfl rfl ?_
    refine xp_gfa rfl rfl (by decide) (by decide) (by first | assumption | exact hL.t rfl) (by first | assumption | exact hL.r rfl | exact hL.2.2.2.2.2) ?_
    refine xp_gfi rfl rfl (by decide) (by decide) (by first | assumption | exact hL.t rfl) ?_
    rw [wA_sz]
    refine xp_ireturn rfl (by decide) (by decide) (by decide) ?_
    rfl
  · exfalso; omega
theorem c9b {z : Nat} {T : Nat → Option xT} {R : Nat → Nat → Option Nat} {A : xQ} {w : Nat} (hL : xLay T R w) (hc : COk w A) (hn : A.1 w 2 = 0) : xF 9 [.ref 0] (xm z T R A) (.inl 1, xm (z + 1) T R A) := by
  have hW := hL.w hL.1
  have w1 := hW.1
  have hem := c98 (z := z) (A := A) hW hc.cnt
  rw [if_pos hn] at hem
  refine xF_eq (xF_p (Nat.le_of_ble_eq_true rfl) ?_)
  refine xp_aload_n rfl rfl ?_
  refine xp_gfa rfl rfl (by decide) (by decide) (by first | assumption | exact hL.t rfl) (by first | assumption | exact hL.r rfl | exact hL.2.2.2.2.2) ?_
  refine xp_gfa rfl rfl (by decide) (by decide) (by first | assumption | exact hL.t rfl) (by first | assumption | exact hL.r rfl | exact hL.2.2.2.2.2) ?_
  refine xp_iv rfl rfl (Nat.le_of_ble_eq_true rfl) (by decide) (by decide) (by decide) (Nat.le_of_ble_eq_true rfl) rfl (xrcv1 (by decide) (by first | assumption | exact hL.t rfl)) (hem) rfl ?_
  refine xp_ifeq 21 rfl (by decide) (by omega) (fun h10 => ?_) (fun h10 => ?_)
  · exfalso; omega
  · skip
    refine xp_throw rfl rfl (Nat.le_of_ble_eq_true rfl) (by decide) (by decide) (by decide) ?_
    rfl
def wM (B : xQ) (l : List Nat) : xQ := (fun a j => if a = 189 ∧ j = 35 then l.length else if a = 214 ∧ j < l.length then l.getD j 0 else B.1 a j, B.2)
theorem wM_ne {B : xQ} {l : List Nat} {a j : Nat} (h : a ≠ 189 ∨ j ≠ 35) (h2 : a ≠ 214) : (wM B l).1 a j = B.1 a j := by
  show (if a = 189 ∧ j = 35 then l.length else if a = 214 ∧ j < l.length then l.getD j 0 else B.1 a j) = _
  rw [if_neg (by omega), if_neg (by omega)]
theorem wM_sz {B : xQ} {l : List Nat} : (wM B l).1 189 35 = l.length := by
  show (if 189 = 189 ∧ 35 = 35 then l.length else if 189 = 214 ∧ 35 < l.length then l.getD 35 0 else B.1 189 35) = _
  exact if_pos ⟨rfl, rfl⟩
theorem wM_2 {B : xQ} {l : List Nat} : (wM B l).2 = B.2 := rfl
theorem wM_get {B : xQ} {l : List Nat} {j : Nat} (h : j < l.length) : (wM B l).1 214 j = l.getD j 0 := by
  show (if 214 = 189 ∧ j = 35 then l.length else if 214 = 214 ∧ j < l.length then l.getD j 0 else B.1 214 j) = _
  rw [if_neg (by omega), if_pos ⟨rfl, h⟩]
theorem wM_nil {B : xQ} : xsI B 189 35 0 = wM B [] := by
  refine Prod.ext (funext fun a => funext fun j => ?_) rfl
  show (xsI B 189 35 0).1 a j = (if a = 189 ∧ j = 35 then 0 else if a = 214 ∧ j < 0 then _ else B.1 a j)
  by_cases h : a = 189 ∧ j = 35
  · rw [if_pos h, h.1, h.2, xsI_eq]
  · rw [if_neg h, if_neg (by omega), xsI_ne (by omega)]
theorem wM_app {B : xQ} {l : List Nat} {b : Nat} : xsI (xsI (wM B l) 214 l.length b) 189 35 (l.length + 1) = wM B (l ++ [b]) := by
  refine Prod.ext (funext fun a => funext fun j => ?_) rfl
  show (xsI (xsI (wM B l) 214 l.length b) 189 35 (l.length + 1)).1 a j = (if a = 189 ∧ j = 35 then (l ++ [b]).length else if a = 214 ∧ j < (l ++ [b]).length then (l ++ [b]).getD j 0 else B.1 a j)
  rw [List.length_append, getD_app]
  show _ = (if a = 189 ∧ j = 35 then l.length + 1 else if a = 214 ∧ j < l.length + 1 then _ else B.1 a j)
  by_cases h : a = 189 ∧ j = 35
  · rw [if_pos h, h.1, h.2, xsI_eq]
  · rw [if_neg h, xsI_ne (by omega)]
    by_cases h2 : a = 214 ∧ j = l.length
    · rw [if_pos (by omega), if_pos h2.2, h2.1, h2.2, xsI_eq]
    · rw [xsI_ne (by omega)]
      show (if a = 189 ∧ j = 35 then l.length else if a = 214 ∧ j < l.length then l.getD j 0 else B.1 a j) = _
      rw [if_neg h]
      by_cases h3 : a = 214 ∧ j < l.length
      · rw [if_pos h3, if_pos (by omega), if_neg (by omega)]
      · rw [if_neg h3, if_neg (by omega)]
theorem wM_xsI {B : xQ} {l : List Nat} {a k v : Nat} (h : a ≠ 214) (h2 : a ≠ 189 ∨ k ≠ 35) : xsI (wM B l) a k v = wM (xsI B a k v) l := by
  refine Prod.ext (funext fun b => funext fun j => ?_) rfl
  show (xsI (wM B l) a k v).1 b j = (if b = 189 ∧ j = 35 then l.length else if b = 214 ∧ j < l.length then l.getD j 0 else (xsI B a k v).1 b j)
  by_cases q : b = a ∧ j = k
  · rw [q.1, q.2, xsI_eq, xsI_eq, if_neg (by omega), if_neg (by omega)]
  · rw [xsI_ne (by omega), xsI_ne (by omega)]
    rfl
theorem set_app {l r : List Nat} {x y : Nat} {j : Nat} : (l ++ (x :: r)).getD j 0 = if j = l.length then x else (l ++ (y :: r)).getD j 0 := by
  induction l generalizing j with
  | nil => cases j with
    | zero => rfl
    | succ j => rfl
  | cons u l ih => cases j with
    | zero => rfl
    | succ j =>
      show (l ++ (x :: r)).getD j 0 = if j + 1 = l.length + 1 then x else (l ++ (y :: r)).getD j 0
      rw [ih]
      by_cases h : j = l.length
      · rw [if_pos h, if_pos (by omega)]
      · rw [if_neg h, if_neg (by omega)]
theorem wM_set {B : xQ} {l r : List Nat} {x y : Nat} : xsI (wM B (l ++ (y :: r))) 214 l.length x = wM B (l ++ (x :: r)) := by
  refine Prod.ext (funext fun a => funext fun j => ?_) rfl
  show _ = (if a = 189 ∧ j = 35 then (l ++ (x :: r)).length else if a = 214 ∧ j < (l ++ (x :: r)).length then (l ++ (x :: r)).getD j 0 else B.1 a j)
  have hl : (l ++ (x :: r)).length = (l ++ (y :: r)).length := by simp only [List.length_append, List.length_cons]
  have hl2 : l.length < (l ++ (y :: r)).length := by simp only [List.length_append, List.length_cons]; omega
  rw [hl, set_app (y := y)]
  by_cases q : a = 214 ∧ j = l.length
  · rw [q.1, q.2, xsI_eq, if_neg (by omega), if_pos ⟨rfl, hl2⟩, if_pos rfl]
  · rw [xsI_ne (by omega)]
    show (if a = 189 ∧ j = 35 then (l ++ (y :: r)).length else if a = 214 ∧ j < (l ++ (y :: r)).length then (l ++ (y :: r)).getD j 0 else B.1 a j) = _
    by_cases h : a = 189 ∧ j = 35
    · rw [if_pos h, if_pos h]
    · rw [if_neg h, if_neg h]
      by_cases h2 : a = 214 ∧ j < (l ++ (y :: r)).length
      · rw [if_pos h2, if_pos h2, if_neg (by omega)]
      · rw [if_neg h2, if_neg h2]
theorem m152 {z : Nat} {T : Nat → Option xT} {R : Nat → Nat → Option Nat} {B : xQ} {w b : Nat} {l : List Nat} (hL : xLay T R w) (hs : l.length < 2400) : xF 152 [.ref 189, .int (nI b)] (xm z T R (wM B l)) (.inr none, xm z T R (wM B (l ++ [b % 256]))) := by
  have e1 : (xsI (wM B l) 214 l.length (b % 256)).1 189 35 = l.length := by rw [xsI_ne (by omega)]; exact wM_sz
  rw [← wM_app]
  refine xF_eq (xF_p (Nat.le_of_ble_eq_true rfl) ?_)
  refine xp_aload_n rfl rfl ?_
  refine xp_gfa rfl rfl (by decide) (by decide) (by first | assumption | exact hL.t rfl) (by first | assumption | exact hL.r rfl | exact hL.2.2.2.2.2) ?_
  refine xp_aload_n rfl rfl ?_
  refine xp_gfi rfl rfl (by decide) (by decide) (by first | assumption | exact hL.t rfl) ?_
  rw [wM_sz]
  refine xp_iload_n rfl rfl ?_
  refine xp_sipush (n := 255) rfl (by decide) ?_
  refine xp_iand rfl ?_
  rw [nI_and255]
  refine xp_iast rfl (by first | assumption | exact hL.t rfl) (by omega) (by omega) ?_
  refine xp_aload_n rfl rfl ?_
  refine xp_dup rfl rfl ?_
  refine xp_gfi rfl rfl (by decide) (by decide) (by first | assumption | exact hL.t rfl) ?_
  rw [e1]
  refine xp_iconst (n := 1) rfl (by decide) ?_
  refine xp_iadd rfl ?_
  refine xp_pfi rfl rfl (by decide) (by decide) (by decide) (by first | assumption | exact hL.t rfl) ?_
  refine xp_return rfl (by decide) (by decide) (by decide) ?_
  rfl
theorem l153 {z : Nat} {T : Nat → Option xT} {R : Nat → Nat → Option Nat} {B : xQ} {w n : Nat} {v : Int64} (hL : xLay T R w) (hn : n ≤ 8) : ∀ (m : Nat) (i : Nat) (l : List Nat), i + m = n → l.length + m ≤ 2400 → xP 153 3 [(0, .ref 189), (1, .long v), (3, .int (nI n)), (4, .int (nI i))] [] 0 0 (xm z T R (wM B l)) (fun r => r = (.inr none, xm z T R (wM B (l ++ nBs v i m)))) := by
  intro m
  induction m with
  | zero =>
    intro i l hi hl
    refine xp_iload rfl rfl ?_
    refine xp_iload_n rfl rfl ?_
    refine xp_icge 27 rfl (by decide) (by omega) (by omega) (fun h6 => ?_) (fun h6 => ?_)
    · skip
      refine xp_return rfl (by decide) (by decide) (by decide) ?_
      show _ = (_, xm z T R (wM B (l ++ [])))
      rw [List.append_nil]
    · exfalso; omega
  | succ m ih =>
    intro i l hi hl
    refine xp_iload rfl rfl ?_
    refine xp_iload_n rfl rfl ?_
    refine xp_icge 27 rfl (by decide) (by omega) (by omega) (fun h6 => ?_) (fun h6 => ?_)
    · exfalso; omega
    · skip
      refine xp_aload_n rfl rfl ?_
      refine xp_lload_n rfl rfl ?_
      refine xp_bipush (n := 8) rfl (by decide) ?_
      refine xp_iload rfl rfl ?_
      refine xp_imul rfl ?_
      refine xp_lshr rfl ?_
      refine xp_l2i rfl ?_
      rw [oN_i (v >>> ((nI (8 * i)).toInt64 &&& 63))]
      refine xp_iv rfl rfl (Nat.le_of_ble_eq_true rfl) (by decide) (by decide) (by decide) (Nat.le_of_ble_eq_true rfl) rfl (xrcv1 (by decide) (by first | assumption | exact hL.t rfl)) (m152 hL (by omega)) rfl ?_
      refine xp_iinc rfl rfl (by decide) (nI_inc _) ?_
      refine xp_goto 3 rfl (by decide) ?_
      refine xp_weak [(0, .ref 189), (1, .long v), (3, .int (nI n)), (4, .int (nI (i + 1)))] (xle_cons rfl (xle_cons rfl (xle_cons rfl (xle_cons rfl (xle_nil _))))) (by simp [xnd]) ?_
      have h := ih (i + 1) (l ++ [bB v i % 256]) (by omega) (by (try simp only [List.length_append, List.length_cons, List.length_nil, nBs_len]); omega)
      rw [List.append_assoc] at h
      exact h
theorem m153 {z : Nat} {T : Nat → Option xT} {R : Nat → Nat → Option Nat} {B : xQ} {w n : Nat} {v : Int64} {l : List Nat} (hL : xLay T R w) (hn : n ≤ 8) (hl : l.length + n ≤ 2400) : xF 153 [.ref 189, .long v, .int (nI n)] (xm z T R (wM B l)) (.inr none, xm z T R (wM B (l ++ nBs v 0 n))) := by
  refine xF_eq (xF_p (Nat.le_of_ble_eq_true rfl) ?_)
  refine xp_iconst (n := 0) rfl (by decide) ?_
  refine xp_istore rfl (by decide) ?_
  refine xp_weak [(0, .ref 189), (1, .long v), (3, .int (nI n)), (4, .int (nI 0))] (xle_cons rfl (xle_cons rfl (xle_cons rfl (xle_cons rfl (xle_nil _))))) (by simp [xnd]) ?_
  exact l153 hL hn n 0 l (by omega) hl
theorem l158 {z : Nat} {T : Nat → Option xT} {R : Nat → Nat → Option Nat} {B : xQ} {w n : Nat} (hL : xLay T R w) (hn : n ≤ 2400) : ∀ (m : Nat) (i ac : Nat), i + m = n → xP 158 4 [(0, .ref 189), (1, .int (nI n)), (2, .int (nI ac)), (3, .int (nI i))] [] 0 0 (xm z T R (B)) (fun r => r = (.inr (some (.int (nI ((ac + sm (B.1 214) i m) % 256)))), xm z T R B)) := by
  intro m
  induction m with
  | zero =>
    intro i ac hi
    refine xp_iload_n rfl rfl ?_
    refine xp_iload_n rfl rfl ?_
    refine xp_icge 24 rfl (by decide) (by omega) (by omega) (fun h6 => ?_) (fun h6 => ?_)
    · skip
      refine xp_iload_n rfl rfl ?_
      refine xp_sipush (n := 255) rfl (by decide) ?_
      refine xp_iand rfl ?_
      rw [nI_and255]
      refine xp_ireturn rfl (by decide) (by decide) (by decide) ?_
      rfl
    · exfalso; omega
  | succ m ih =>
    intro i ac hi
    refine xp_iload_n rfl rfl ?_
    refine xp_iload_n rfl rfl ?_
    refine xp_icge 24 rfl (by decide) (by omega) (by omega) (fun h6 => ?_) (fun h6 => ?_)
    · exfalso; omega
    · skip
      refine xp_iload_n rfl rfl ?_
      refine xp_aload_n rfl rfl ?_
      refine xp_gfa rfl rfl (by decide) (by decide) (by first | assumption | exact hL.t rfl) (by first | assumption | exact hL.r rfl | exact hL.2.2.2.2.2) ?_
      refine xp_iload_n rfl rfl ?_
      refine xp_iald rfl (by first | assumption | exact hL.t rfl) (by omega) (by omega) ?_
      refine xp_iadd rfl ?_
      refine xp_istore_n rfl (by decide) ?_
      refine xp_iinc rfl rfl (by decide) (nI_inc _) ?_
      refine xp_goto 4 rfl (by decide) ?_
      refine xp_weak [(0, .ref 189), (1, .int (nI n)), (2, .int (nI (ac + B.1 214 i))), (3, .int (nI (i + 1)))] (xle_cons rfl (xle_cons rfl (xle_cons rfl (xle_cons rfl (xle_nil _))))) (by simp [xnd]) ?_
      have h := ih (i + 1) (ac + B.1 214 i) (by omega)
      rw [Nat.add_assoc] at h
      exact h
theorem m158 {z : Nat} {T : Nat → Option xT} {R : Nat → Nat → Option Nat} {B : xQ} {w n : Nat} (hL : xLay T R w) (hn : n ≤ 2400) : xF 158 [.ref 189, .int (nI n)] (xm z T R B) (.inr (some (.int (nI (sm (B.1 214) 0 n % 256)))), xm z T R B) := by
  have hf := l158 (z := z) (B := B) hL hn n 0 0 (by omega)
  rw [Nat.zero_add] at hf
  refine xF_eq (xF_p (Nat.le_of_ble_eq_true rfl) ?_)
  refine xp_iconst (n := 0) rfl (by decide) ?_
  refine xp_istore_n rfl (by decide) ?_
  refine xp_iconst (n := 0) rfl (by decide) ?_
  refine xp_istore_n rfl (by decide) ?_
  refine xp_weak [(0, .ref 189), (1, .int (nI n)), (2, .int (nI 0)), (3, .int (nI 0))] (xle_cons rfl (xle_cons rfl (xle_cons rfl (xle_cons rfl (xle_nil _))))) (by simp [xnd]) ?_
  exact hf
theorem l119a {z : Nat} {T : Nat → Option xT} {R : Nat → Nat → Option Nat} {B : xQ} {w f : Nat} {Q : xR → Prop} (hL : xLay T R w) (hf : f < 6) (hn : B.1 191 f ≤ 30) : ∀ (m i ac : Nat), i + m = 30 * f + B.1 191 f → xP 119 62 [(0, .ref 189), (1, .int (nI (cI (B.1 193) (B.1 194) (B.1 195) m i ac))), (2, .int (nI f))] [] 0 0 (xm z T R B) Q → xP 119 15 [(0, .ref 189), (1, .int (nI ac)), (2, .int (nI f)), (3, .int (nI i))] [] 0 0 (xm z T R B) Q := by
  intro m
  induction m with
  | zero =>
    intro i ac hi hQ
    refine xp_iload_n rfl rfl ?_
    refine xp_bipush (n := 30) rfl (by decide) ?_
    refine xp_iload_n rfl rfl ?_
    refine xp_imul rfl ?_
    refine xp_aload_n rfl rfl ?_
    refine xp_gfa rfl rfl (by decide) (by decide) (by first | assumption | exact hL.t rfl) (by first | assumption | exact hL.r rfl | exact hL.2.2.2.2.2) ?_
    refine xp_iload_n rfl rfl ?_
    refine xp_iald rfl (by first | assumption | exact hL.t rfl) (by omega) (by omega) ?_
    refine xp_iadd rfl ?_
    refine xp_icge 62 rfl (by decide) (by omega) (by omega) (fun h27 => ?_) (fun h27 => ?_)
    · skip
      refine xp_weak [(0, .ref 189), (1, .int (nI ac)), (2, .int (nI f))] (xle_cons rfl (xle_cons rfl (xle_cons rfl (xle_nil _)))) (by simp [xnd]) ?_
      exact hQ
    · exfalso; omega
  | succ m ih =>
    intro i ac hi hQ
    refine xp_iload_n rfl rfl ?_
    refine xp_bipush (n := 30) rfl (by decide) ?_
    refine xp_iload_n rfl rfl ?_
    refine xp_imul rfl ?_
    refine xp_aload_n rfl rfl ?_
    refine xp_gfa rfl rfl (by decide) (by decide) (by first | assumption | exact hL.t rfl) (by first | assumption | exact hL.r rfl | exact hL.2.2.2.2.2) ?_
    refine xp_iload_n rfl rfl ?_
    refine xp_iald rfl (by first | assumption | exact hL.t rfl) (by omega) (by omega) ?_
    refine xp_iadd rfl ?_
    refine xp_icge 62 rfl (by decide) (by omega) (by omega) (fun h27 => ?_) (fun h27 => ?_)
    · exfalso; omega
    · skip
      refine xp_bipush (n := 31) rfl (by decide) ?_
      refine xp_iload_n rfl rfl ?_
      refine xp_imul rfl ?_
      refine xp_aload_n rfl rfl ?_
      refine xp_gfa rfl rfl (by decide) (by decide) (by first | assumption | exact hL.t rfl) (by first | assumption | exact hL.r rfl | exact hL.2.2.2.2.2) ?_
      refine xp_iload_n rfl rfl ?_
      refine xp_iald rfl (by first | assumption | exact hL.t rfl) (by omega) (by omega) ?_
      refine xp_iadd rfl ?_
      refine xp_aload_n rfl rfl ?_
      refine xp_gfa rfl rfl (by decide) (by decide) (by first | assumption | exact hL.t rfl) (by first | assumption | exact hL.r rfl | exact hL.2.2.2.2.2) ?_
      refine xp_iload_n rfl rfl ?_
      refine xp_iald rfl (by first | assumption | exact hL.t rfl) (by omega) (by omega) ?_
      refine xp_iadd rfl ?_
      refine xp_aload_n rfl rfl ?_
      refine xp_gfa rfl rfl (by decide) (by decide) (by first | assumption | exact hL.t rfl) (by first | assumption | exact hL.r rfl | exact hL.2.2.2.2.2) ?_
      refine xp_iload_n rfl rfl ?_
      refine xp_iald rfl (by first | assumption | exact hL.t rfl) (by omega) (by omega) ?_
      refine xp_iadd rfl ?_
      refine xp_istore_n rfl (by decide) ?_
      refine xp_iinc rfl rfl (by decide) (nI_inc _) ?_
      refine xp_goto 15 rfl (by decide) ?_
      refine xp_weak [(0, .ref 189), (1, .int (nI (31 * ac + B.1 193 i + B.1 194 i + B.1 195 i))), (2, .int (nI f)), (3, .int (nI (i + 1)))] (xle_cons rfl (xle_cons rfl (xle_cons rfl (xle_cons rfl (xle_nil _))))) (by simp [xnd]) ?_
      exact ih (i + 1) _ (by omega) hQ
theorem l119 {z : Nat} {T : Nat → Option xT} {R : Nat → Nat → Option Nat} {B : xQ} {w : Nat} (hL : xLay T R w) (hn : ∀ f, f < 6 → B.1 191 f ≤ 30) : ∀ (m : Nat) (f ac : Nat), f + m = 6 → xP 119 4 [(0, .ref 189), (1, .int (nI ac)), (2, .int (nI f))] [] 0 0 (xm z T R (B)) (fun r => r = (.inr (some (.int (nI (cF (B.1 191) (B.1 193) (B.1 194) (B.1 195) m f ac % 256)))), xm z T R B)) := by
  intro m
  induction m with
  | zero =>
    intro f ac hi
    refine xp_iload_n rfl rfl ?_
    refine xp_bipush (n := 6) rfl (by decide) ?_
    refine xp_icge 68 rfl (by decide) (by omega) (by omega) (fun h7 => ?_) (fun h7 => ?_)
    · skip
      refine xp_iload_n rfl rfl ?_
      refine xp_sipush (n := 255) rfl (by decide) ?_
      refine xp_iand rfl ?_
      rw [nI_and255]
      refine xp_ireturn rfl (by decide) (by decide) (by decide) ?_
      rfl
    · exfalso; omega
  | succ m ih =>
    intro f ac hi
    refine xp_iload_n rfl rfl ?_
    refine xp_bipush (n := 6) rfl (by decide) ?_
    refine xp_icge 68 rfl (by decide) (by omega) (by omega) (fun h7 => ?_) (fun h7 => ?_)
    · exfalso; omega
    · skip
      refine xp_bipush (n := 30) rfl (by decide) ?_
      refine xp_iload_n rfl rfl ?_
      refine xp_imul rfl ?_
      refine xp_istore_n rfl (by decide) ?_
      refine xp_weak [(0, .ref 189), (1, .int (nI ac)), (2, .int (nI f)), (3, .int (nI (30 * f)))] (xle_cons rfl (xle_cons rfl (xle_cons rfl (xle_cons rfl (xle_nil _))))) (by simp [xnd]) ?_
      refine l119a hL (by omega) (hn f (by omega)) (B.1 191 f) (30 * f) ac (by omega) ?_
      refine xp_iinc rfl rfl (by decide) (nI_inc _) ?_
      refine xp_goto 4 rfl (by decide) ?_
      refine xp_weak [(0, .ref 189), (1, .int (nI (cI (B.1 193) (B.1 194) (B.1 195) (B.1 191 f) (30 * f) ac))), (2, .int (nI (f + 1)))] (xle_cons rfl (xle_cons rfl (xle_cons rfl (xle_nil _)))) (by simp [xnd]) ?_
      exact ih (f + 1) (cI (B.1 193) (B.1 194) (B.1 195) (B.1 191 f) (30 * f) ac) (by omega)
theorem m119 {z : Nat} {T : Nat → Option xT} {R : Nat → Nat → Option Nat} {B : xQ} {w : Nat} (hL : xLay T R w) (hn : ∀ f, f < 6 → B.1 191 f ≤ 30) : xF 119 [.ref 189] (xm z T R B) (.inr (some (.int (nI (cF (B.1 191) (B.1 193) (B.1 194) (B.1 195) 6 0 0 % 256)))), xm z T R B) := by
  refine xF_eq (xF_p (Nat.le_of_ble_eq_true rfl) ?_)
  refine xp_iconst (n := 0) rfl (by decide) ?_
  refine xp_istore_n rfl (by decide) ?_
  refine xp_iconst (n := 0) rfl (by decide) ?_
  refine xp_istore_n rfl (by decide) ?_
  refine xp_weak [(0, .ref 189), (1, .int (nI 0)), (2, .int (nI 0))] (xle_cons rfl (xle_cons rfl (xle_cons rfl (xle_nil _)))) (by simp [xnd]) ?_
  exact l119 hL hn 6 0 0 (by omega)
/-- the reference's numbers are the search's -/
def NR (w : Nat) (C B0 B : xQ) : Prop := B.1 189 36 = C.1 (w + 2) 7 ∧ (∀ o, o < 24 → B.1 215 o = C.1 (w + 9) o) ∧ (∀ q, q < C.1 (w + 2) 7 → B.1 216 q = C.1 (w + 10) q) ∧ (∀ a j, a ≠ 215 → a ≠ 216 → (a ≠ 189 ∨ j ≠ 36) → B.1 a j = B0.1 a j) ∧ B.2 = B0.2
theorem NR.r {w : Nat} {C B0 B : xQ} (h : NR w C B0 B) : ∀ l a j, a ≠ 214 → a ≠ 215 → a ≠ 216 → (a ≠ 189 ∨ (j ≠ 35 ∧ j ≠ 36)) → (wM B l).1 a j = B0.1 a j := fun l a j q1 q2 q3 q4 => by
  rw [wM_ne (by omega) q1]
  exact h.2.2.2.1 a j q2 q3 (by omega)
def mtv (w k : Nat) (v : Int64) (C : xQ) : xQ := if k = 3 ∨ k = 4 then aMeet1 w (oN v) C else C
theorem m154 {z : Nat} {T : Nat → Option xT} {R : Nat → Nat → Option Nat} {B : xQ} {C B0 A0 : xQ} {w n : Nat} {l : List Nat} (hL : xLay T R w) (hS : Sr w A0 C) (hN : NR w C B0 B) (ho : n < 24) : ∃ B2, xF 154 [.ref 189, .int (nI n)] (xm z T R (wM B l)) (.inr (some (.int (nI ((aMeet1 w n C).1 (w + 9) n)))), xm z T R (wM B2 l)) ∧ NR w (aMeet1 w n C) B0 B2 := by
  have hN0 := hN
  obtain ⟨n1, n2, n3, n4, n5⟩ := hN
  have rr : ∀ a j, a ≠ 214 → a ≠ 189 → (wM B l).1 a j = B.1 a j := fun a j q1 q2 => wM_ne (Or.inl q2) q1
  have e215 : (wM B l).1 215 n = C.1 (w + 9) n := by rw [rr _ _ (by omega) (by omega)]; exact n2 n ho
  have e36 : (wM B l).1 189 36 = C.1 (w + 2) 7 := by rw [wM_ne (by omega) (by omega)]; exact n1
  have hfc := hS.1.2.fc2
  by_cases hu : C.1 (w + 9) n = 4294967295
  · obtain ⟨g1, g2, g3⟩ := aMeet1_new hu
    have hlt := hS.1.2.fc ho hu
    have x1 : (xsI (wM B l) 215 n (C.1 (w + 2) 7)).1 189 36 = C.1 (w + 2) 7 := by rw [xsI_ne (by omega)]; exact e36
    have x2 : (xsI (xsI (wM B l) 215 n (C.1 (w + 2) 7)) 216 (C.1 (w + 2) 7) n).1 189 36 = C.1 (w + 2) 7 := by rw [xsI_ne (by omega)]; exact x1
    have x3 : (xsI (xsI (xsI (wM B l) 215 n (C.1 (w + 2) 7)) 216 (C.1 (w + 2) 7) n) 189 36 (C.1 (w + 2) 7 + 1)).1 215 n = C.1 (w + 2) 7 := by rw [xsI_ne (by omega), xsI_ne (by omega), xsI_eq]
    have x4 : xsI (xsI (xsI (wM B l) 215 n (C.1 (w + 2) 7)) 216 (C.1 (w + 2) 7) n) 189 36 (C.1 (w + 2) 7 + 1) = wM (xsI (xsI (xsI B 215 n (C.1 (w + 2) 7)) 216 (C.1 (w + 2) 7) n) 189 36 (C.1 (w + 2) 7 + 1)) l := by rw [wM_xsI (by omega) (by omega), wM_xsI (by omega) (by omega), wM_xsI (by omega) (by omega)]
    rw [g1, if_pos rfl]
    refine ⟨xsI (xsI (xsI B 215 n (C.1 (w + 2) 7)) 216 (C.1 (w + 2) 7) n) 189 36 (C.1 (w + 2) 7 + 1), ?_, ?_⟩
    · rw [← x4]
      refine xF_eq (xF_p (Nat.le_of_ble_eq_true rfl) ?_)
      refine xp_aload_n rfl rfl ?_
      refine xp_gfa rfl rfl (by decide) (by decide) (by first | assumption | exact hL.t rfl) (by first | assumption | exact hL.r rfl | exact hL.2.2.2.2.2) ?_
      refine xp_iload_n rfl rfl ?_
      refine xp_iald rfl (by first | assumption | exact hL.t rfl) (by omega) (by omega) ?_
      rw [e215, hu]
      refine xp_iflt 16 rfl (by decide) (by omega) (fun h6 => ?_) (fun h6 => ?_)
      · skip
        refine xp_aload_n rfl rfl ?_
        refine xp_gfa rfl rfl (by decide) (by decide) (by first | assumption | exact hL.t rfl) (by first | assumption | exact hL.r rfl | exact hL.2.2.2.2.2) ?_
        refine xp_iload_n rfl rfl ?_
        refine xp_aload_n rfl rfl ?_
        refine xp_gfi rfl rfl (by decide) (by decide) (by first | assumption | exact hL.t rfl) ?_
        rw [e36]
        refine xp_iast rfl (by first | assumption | exact hL.t rfl) (by omega) (by omega) ?_
        refine xp_aload_n rfl rfl ?_
        refine xp_gfa rfl rfl (by decide) (by decide) (by first | assumption | exact hL.t rfl) (by first | assumption | exact hL.r rfl | exact hL.2.2.2.2.2) ?_
        refine xp_aload_n rfl rfl ?_
        refine xp_gfi rfl rfl (by decide) (by decide) (by first | assumption | exact hL.t rfl) ?_
        rw [x1]
        refine xp_iload_n rfl rfl ?_
        refine xp_iast rfl (by first | assumption | exact hL.t rfl) (by omega) (by omega) ?_
        refine xp_aload_n rfl rfl ?_
        refine xp_dup rfl rfl ?_
        refine xp_gfi rfl rfl (by decide) (by decide) (by first | assumption | exact hL.t rfl) ?_
        rw [x2]
        refine xp_iconst (n := 1) rfl (by decide) ?_
        refine xp_iadd rfl ?_
        refine xp_pfi rfl rfl (by decide) (by decide) (by decide) (by first | assumption | exact hL.t rfl) ?_
        refine xp_aload_n rfl rfl ?_
        refine xp_gfa rfl rfl (by decide) (by decide) (by first | assumption | exact hL.t rfl) (by first | assumption | exact hL.r rfl | exact hL.2.2.2.2.2) ?_
        refine xp_iload_n rfl rfl ?_
        refine xp_iald rfl (by first | assumption | exact hL.t rfl) (by omega) (by omega) ?_
        rw [x3]
        refine xp_ireturn rfl (by decide) (by decide) (by decide) ?_
        rfl
      · exfalso; omega
    · refine ⟨?_, fun o ho => ?_, fun q hq => ?_, fun a j q1 q2 q3 => ?_, n5⟩
      · rw [xsI_eq, g3]
      · rw [xsI_ne (by omega), xsI_ne (by omega), g1]
        by_cases q : o = n
        · rw [if_pos q, q, xsI_eq]
        · rw [if_neg q, xsI_ne (by omega)]; exact n2 o ho
      · rw [xsI_ne (by omega), g2]
        rw [g3] at hq
        by_cases e : q = C.1 (w + 2) 7
        · rw [if_pos e, e, xsI_eq]
        · rw [if_neg e, xsI_ne (by omega), xsI_ne (by omega)]; exact n3 q (by omega)
      · rw [xsI_ne (by omega), xsI_ne (by omega), xsI_ne (by omega)]; exact n4 a j q1 q2 q3
  · have e : aMeet1 w n C = C := by unfold aMeet1; rw [if_neg hu]
    have hlt := (hS.1.2.1 n ho).resolve_left hu
    rw [e]
    refine ⟨B, ?_, hN0⟩
    refine xF_eq (xF_p (Nat.le_of_ble_eq_true rfl) ?_)
    refine xp_aload_n rfl rfl ?_
    refine xp_gfa rfl rfl (by decide) (by decide) (by first | assumption | exact hL.t rfl) (by first | assumption | exact hL.r rfl | exact hL.2.2.2.2.2) ?_
    refine xp_iload_n rfl rfl ?_
    refine xp_iald rfl (by first | assumption | exact hL.t rfl) (by omega) (by omega) ?_
    rw [e215]
    refine xp_iflt 16 rfl (by decide) (by omega) (fun h6 => ?_) (fun h6 => ?_)
    · exfalso; omega
    · skip
      refine xp_aload_n rfl rfl ?_
      refine xp_gfa rfl rfl (by decide) (by decide) (by first | assumption | exact hL.t rfl) (by first | assumption | exact hL.r rfl | exact hL.2.2.2.2.2) ?_
      refine xp_iload_n rfl rfl ?_
      refine xp_iald rfl (by first | assumption | exact hL.t rfl) (by omega) (by omega) ?_
      rw [e215]
      refine xp_ireturn rfl (by decide) (by decide) (by decide) ?_
      rfl
theorem m155 {z : Nat} {T : Nat → Option xT} {R : Nat → Nat → Option Nat} {B : xQ} {C B0 A0 F : xQ} {w k : Nat} {v : Int64} {l : List Nat} (hL : xLay T R w) (hS : Sr w A0 C) (hN : NR w C B0 B) (hk : k ≤ 4) (ho : 3 ≤ k → oN v < 24) (hx : Ext w (mtv w k v C) F) (hl : l.length + 9 ≤ 2400) : ∃ B2, xF 155 [.ref 189, .int (nI k), .long v] (xm z T R (wM B l)) (.inr none, xm z T R (wM B2 (l ++ vBv (F.1 (w + 9)) k v))) ∧ NR w (mtv w k v C) B0 B2 := by
  have hk5 : k = 0 ∨ k = 1 ∨ k = 2 ∨ k = 3 ∨ k = 4 := by omega
  rcases hk5 with rfl | rfl | rfl | rfl | rfl
  · refine ⟨B, ?_, hN⟩
    rw [vBv_0 rfl]
    refine xF_eq (xF_p (Nat.le_of_ble_eq_true rfl) ?_)
    refine xp_aload_n rfl rfl ?_
    refine xp_iload_n rfl rfl ?_
    refine xp_iv rfl rfl (Nat.le_of_ble_eq_true rfl) (by decide) (by decide) (by decide) (Nat.le_of_ble_eq_true rfl) rfl (xrcv1 (by decide) (by first | assumption | exact hL.t rfl)) (m152 hL (by (try simp only [List.length_append, List.length_cons, List.length_nil]); omega)) rfl ?_
    refine xp_iload_n rfl rfl ?_
    refine xp_iconst (n := 1) rfl (by decide) ?_
    refine xp_icne 16 rfl (by decide) (by omega) (by omega) (fun h7 => ?_) (fun h7 => ?_)
    · skip
      refine xp_iload_n rfl rfl ?_
      refine xp_iconst (n := 2) rfl (by decide) ?_
      refine xp_icne 28 rfl (by decide) (by omega) (by omega) (fun h18 => ?_) (fun h18 => ?_)
      · skip
        refine xp_iload_n rfl rfl ?_
        refine xp_iconst (n := 2) rfl (by decide) ?_
        refine xp_icle 43 rfl (by decide) (by omega) (by omega) (fun h30 => ?_) (fun h30 => ?_)
        · skip
          refine xp_return rfl (by decide) (by decide) (by decide) ?_
          rfl
        · exfalso; omega
      · exfalso; omega
    · exfalso; omega
  · refine ⟨B, ?_, hN⟩
    rw [vBv_1 rfl, show l ++ (1 % 256 :: nBs v 0 4) = (l ++ [1 % 256]) ++ nBs v 0 4 by rw [List.append_assoc]; rfl]
    refine xF_eq (xF_p (Nat.le_of_ble_eq_true rfl) ?_)
    refine xp_aload_n rfl rfl ?_
    refine xp_iload_n rfl rfl ?_
    refine xp_iv rfl rfl (Nat.le_of_ble_eq_true rfl) (by decide) (by decide) (by decide) (Nat.le_of_ble_eq_true rfl) rfl (xrcv1 (by decide) (by first | assumption | exact hL.t rfl)) (m152 hL (by (try simp only [List.length_append, List.length_cons, List.length_nil]); omega)) rfl ?_
    refine xp_iload_n rfl rfl ?_
    refine xp_iconst (n := 1) rfl (by decide) ?_
    refine xp_icne 16 rfl (by decide) (by omega) (by omega) (fun h7 => ?_) (fun h7 => ?_)
    · exfalso; omega
    · skip
      refine xp_aload_n rfl rfl ?_
      refine xp_lload_n rfl rfl ?_
      refine xp_iconst (n := 4) rfl (by decide) ?_
      refine xp_iv rfl rfl (Nat.le_of_ble_eq_true rfl) (by decide) (by decide) (by decide) (Nat.le_of_ble_eq_true rfl) rfl (xrcv1 (by decide) (by first | assumption | exact hL.t rfl)) (m153 hL (by omega) (by (try simp only [List.length_append, List.length_cons, List.length_nil]); omega)) rfl ?_
      refine xp_iload_n rfl rfl ?_
      refine xp_iconst (n := 2) rfl (by decide) ?_
      refine xp_icne 28 rfl (by decide) (by omega) (by omega) (fun h18 => ?_) (fun h18 => ?_)
      · skip
        refine xp_iload_n rfl rfl ?_
        refine xp_iconst (n := 2) rfl (by decide) ?_
        refine xp_icle 43 rfl (by decide) (by omega) (by omega) (fun h30 => ?_) (fun h30 => ?_)
        · skip
          refine xp_return rfl (by decide) (by decide) (by decide) ?_
          rfl
        · exfalso; omega
      · exfalso; omega
  · refine ⟨B, ?_, hN⟩
    rw [vBv_2 rfl, show l ++ (2 % 256 :: nBs v 0 8) = (l ++ [2 % 256]) ++ nBs v 0 8 by rw [List.append_assoc]; rfl]
    refine xF_eq (xF_p (Nat.le_of_ble_eq_true rfl) ?_)
    refine xp_aload_n rfl rfl ?_
    refine xp_iload_n rfl rfl ?_
    refine xp_iv rfl rfl (Nat.le_of_ble_eq_true rfl) (by decide) (by decide) (by decide) (Nat.le_of_ble_eq_true rfl) rfl (xrcv1 (by decide) (by first | assumption | exact hL.t rfl)) (m152 hL (by (try simp only [List.length_append, List.length_cons, List.length_nil]); omega)) rfl ?_
    refine xp_iload_n rfl rfl ?_
    refine xp_iconst (n := 1) rfl (by decide) ?_
    refine xp_icne 16 rfl (by decide) (by omega) (by omega) (fun h7 => ?_) (fun h7 => ?_)
    · skip
      refine xp_iload_n rfl rfl ?_
      refine xp_iconst (n := 2) rfl (by decide) ?_
      refine xp_icne 28 rfl (by decide) (by omega) (by omega) (fun h18 => ?_) (fun h18 => ?_)
      · exfalso; omega
      · skip
        refine xp_aload_n rfl rfl ?_
        refine xp_lload_n rfl rfl ?_
        refine xp_bipush (n := 8) rfl (by decide) ?_
        refine xp_iv rfl rfl (Nat.le_of_ble_eq_true rfl) (by decide) (by decide) (by decide) (Nat.le_of_ble_eq_true rfl) rfl (xrcv1 (by decide) (by first | assumption | exact hL.t rfl)) (m153 hL (by omega) (by (try simp only [List.length_append, List.length_cons, List.length_nil]); omega)) rfl ?_
        refine xp_iload_n rfl rfl ?_
        refine xp_iconst (n := 2) rfl (by decide) ?_
        refine xp_icle 43 rfl (by decide) (by omega) (by omega) (fun h30 => ?_) (fun h30 => ?_)
        · skip
          refine xp_return rfl (by decide) (by decide) (by decide) ?_
          rfl
        · exfalso; omega
    · exfalso; omega
  · have ho2 := ho (by omega)
    obtain ⟨B2, h1, h2⟩ := m154 (z := z) (l := l ++ [3 % 256]) hL hS hN ho2
    have e : mtv w 3 v C = aMeet1 w (oN v) C := if_pos (by omega)
    rw [e] at hx
    have e2 : F.1 (w + 9) (oN v) = (aMeet1 w (oN v) C).1 (w + 9) (oN v) := hx.2.2 _ ho2 (((meet1_fd hS.1.2 hS.2 ho2).1 _).mpr (Or.inr rfl))
    rw [e]
    refine ⟨B2, ?_, h2⟩
    rw [vBv_3 rfl, e2, show l ++ [3 % 256, (aMeet1 w (oN v) C).1 (w + 9) (oN v) % 256] = (l ++ [3 % 256]) ++ [(aMeet1 w (oN v) C).1 (w + 9) (oN v) % 256] by rw [List.append_assoc]; rfl]
    refine xF_eq (xF_p (Nat.le_of_ble_eq_true rfl) ?_)
    refine xp_aload_n rfl rfl ?_
    refine xp_iload_n rfl rfl ?_
    refine xp_iv rfl rfl (Nat.le_of_ble_eq_true rfl) (by decide) (by decide) (by decide) (Nat.le_of_ble_eq_true rfl) rfl (xrcv1 (by decide) (by first | assumption | exact hL.t rfl)) (m152 hL (by (try simp only [List.length_append, List.length_cons, List.length_nil]); omega)) rfl ?_
    refine xp_iload_n rfl rfl ?_
    refine xp_iconst (n := 1) rfl (by decide) ?_
    refine xp_icne 16 rfl (by decide) (by omega) (by omega) (fun h7 => ?_) (fun h7 => ?_)
    · skip
      refine xp_iload_n rfl rfl ?_
      refine xp_iconst (n := 2) rfl (by decide) ?_
      refine xp_icne 28 rfl (by decide) (by omega) (by omega) (fun h18 => ?_) (fun h18 => ?_)
      · skip
        refine xp_iload_n rfl rfl ?_
        refine xp_iconst (n := 2) rfl (by decide) ?_
        refine xp_icle 43 rfl (by decide) (by omega) (by omega) (fun h30 => ?_) (fun h30 => ?_)
        · exfalso; omega
        · skip
          refine xp_aload_n rfl rfl ?_
          refine xp_aload_n rfl rfl ?_
          refine xp_lload_n rfl rfl ?_
          refine xp_l2i rfl ?_
          rw [oN_i]
          refine xp_iv rfl rfl (Nat.le_of_ble_eq_true rfl) (by decide) (by decide) (by decide) (Nat.le_of_ble_eq_true rfl) rfl (xrcv1 (by decide) (by first | assumption | exact hL.t rfl)) (h1) rfl ?_
          refine xp_iv rfl rfl (Nat.le_of_ble_eq_true rfl) (by decide) (by decide) (by decide) (Nat.le_of_ble_eq_true rfl) rfl (xrcv1 (by decide) (by first | assumption | exact hL.t rfl)) (m152 hL (by (try simp only [List.length_append, List.length_cons, List.length_nil]); omega)) rfl ?_
          refine xp_return rfl (by decide) (by decide) (by decide) ?_
          rfl
      · exfalso; omega
    · exfalso; omega
  · have ho2 := ho (by omega)
    obtain ⟨B2, h1, h2⟩ := m154 (z := z) (l := l ++ [4 % 256]) hL hS hN ho2
    have e : mtv w 4 v C = aMeet1 w (oN v) C := if_pos (by omega)
    rw [e] at hx
    have e2 : F.1 (w + 9) (oN v) = (aMeet1 w (oN v) C).1 (w + 9) (oN v) := hx.2.2 _ ho2 (((meet1_fd hS.1.2 hS.2 ho2).1 _).mpr (Or.inr rfl))
    rw [e]
    refine ⟨B2, ?_, h2⟩
    rw [vBv_4 rfl, e2, show l ++ [4 % 256, (aMeet1 w (oN v) C).1 (w + 9) (oN v) % 256] = (l ++ [4 % 256]) ++ [(aMeet1 w (oN v) C).1 (w + 9) (oN v) % 256] by rw [List.append_assoc]; rfl]
    refine xF_eq (xF_p (Nat.le_of_ble_eq_true rfl) ?_)
    refine xp_aload_n rfl rfl ?_
    refine xp_iload_n rfl rfl ?_
    refine xp_iv rfl rfl (Nat.le_of_ble_eq_true rfl) (by decide) (by decide) (by decide) (Nat.le_of_ble_eq_true rfl) rfl (xrcv1 (by decide) (by first | assumption | exact hL.t rfl)) (m152 hL (by (try simp only [List.length_append, List.length_cons, List.length_nil]); omega)) rfl ?_
    refine xp_iload_n rfl rfl ?_
    refine xp_iconst (n := 1) rfl (by decide) ?_
    refine xp_icne 16 rfl (by decide) (by omega) (by omega) (fun h7 => ?_) (fun h7 => ?_)
    · skip
      refine xp_iload_n rfl rfl ?_
      refine xp_iconst (n := 2) rfl (by decide) ?_
      refine xp_icne 28 rfl (by decide) (by omega) (by omega) (fun h18 => ?_) (fun h18 => ?_)
      · skip
        refine xp_iload_n rfl rfl ?_
        refine xp_iconst (n := 2) rfl (by decide) ?_
        refine xp_icle 43 rfl (by decide) (by omega) (by omega) (fun h30 => ?_) (fun h30 => ?_)
        · exfalso; omega
        · skip
          refine xp_aload_n rfl rfl ?_
          refine xp_aload_n rfl rfl ?_
          refine xp_lload_n rfl rfl ?_
          refine xp_l2i rfl ?_
          rw [oN_i]
          refine xp_iv rfl rfl (Nat.le_of_ble_eq_true rfl) (by decide) (by decide) (by decide) (Nat.le_of_ble_eq_true rfl) rfl (xrcv1 (by decide) (by first | assumption | exact hL.t rfl)) (h1) rfl ?_
          refine xp_iv rfl rfl (Nat.le_of_ble_eq_true rfl) (by decide) (by decide) (by decide) (Nat.le_of_ble_eq_true rfl) rfl (xrcv1 (by decide) (by first | assumption | exact hL.t rfl)) (m152 hL (by (try simp only [List.length_append, List.length_cons, List.length_nil]); omega)) rfl ?_
          refine xp_return rfl (by decide) (by decide) (by decide) ?_
          rfl
      · exfalso; omega
    · exfalso; omega
