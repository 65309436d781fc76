-- load: the reference loads
theorem l168a {z : Nat} {T : Nat → Option xT} {R : Nat → Nat → Option Nat} {w v : Nat} {Q : xR → Prop} (hL : xLay T R w) (hv : v ≤ 3) : ∀ (m i : Nat) (B : xQ), i + m = v → (∀ B2, (∀ a j, 199 ≤ a → a ≤ 201 → i ≤ j → j < v → B2.1 a j = B.1 (a + 18) j) → (∀ a j, (a < 199 ∨ 201 < a ∨ j < i ∨ v ≤ j) → B2.1 a j = B.1 a j) → B2.2 = B.2 → xP 168 110 [(0, .ref 189), (1, .int (nI v))] [] 0 0 (xm z T R B2) Q) → xP 168 63 [(0, .ref 189), (1, .int (nI v)), (2, .int (nI i))] [] 0 0 (xm z T R B) Q := by
  intro m
  induction m with
  | zero =>
    intro i B hi hQ
    have hQ2 := hQ B (fun a j _ _ q1 q2 => by omega) (fun _ _ _ => rfl) rfl
    refine xp_iload_n rfl rfl ?_
    refine xp_iload_n rfl rfl ?_
    refine xp_icge 110 rfl (by decide) (by omega) (by omega) (fun h65 => ?_) (fun h65 => ?_)
    · skip
      refine xp_weak [(0, .ref 189), (1, .int (nI v))] (xle_cons rfl (xle_cons rfl (xle_nil _))) (by simp [xnd]) ?_
      exact hQ2
    · exfalso; omega
  | succ m ih =>
    intro i B hi hQ
    have e1 : (xsI B 199 i (B.1 217 i)).1 218 i = B.1 218 i := by rw [xsI_ne (by omega)]
    have e2 : (xsI (xsI B 199 i (B.1 217 i)) 200 i (B.1 218 i)).1 219 i = B.1 219 i := by rw [xsI_ne (by omega), xsI_ne (by omega)]
    have ne : ∀ a j, (a < 199 ∨ 201 < a ∨ j ≠ i) → (xsI (xsI (xsI B 199 i (B.1 217 i)) 200 i (B.1 218 i)) 201 i (B.1 219 i)).1 a j = B.1 a j := fun a j q => by rw [xsI_ne (by omega), xsI_ne (by omega), xsI_ne (by omega)]
    have eq : ∀ a, 199 ≤ a → a ≤ 201 → (xsI (xsI (xsI B 199 i (B.1 217 i)) 200 i (B.1 218 i)) 201 i (B.1 219 i)).1 a i = B.1 (a + 18) i := fun a q1 q2 => by
      have h : a = 199 ∨ a = 200 ∨ a = 201 := by omega
      rcases h with rfl | rfl | rfl
      · rw [xsI_ne (by omega), xsI_ne (by omega), xsI_eq]
      · rw [xsI_ne (by omega), xsI_eq]
      · rw [xsI_eq]
    have hih := ih (i + 1) (xsI (xsI (xsI B 199 i (B.1 217 i)) 200 i (B.1 218 i)) 201 i (B.1 219 i)) (by omega) (fun B2 h1 h2 h3 => hQ B2 (fun a j q1 q2 q3 q4 => by
      by_cases e : j = i
      · rw [e, h2 a i (by omega)]; exact eq a q1 q2
      · rw [h1 a j q1 q2 (by omega) q4]; exact ne _ _ (by omega)) (fun a j q => by rw [h2 a j (by omega)]; exact ne a j (by omega)) h3)
    refine xp_iload_n rfl rfl ?_
    refine xp_iload_n rfl rfl ?_
    refine xp_icge 110 rfl (by decide) (by omega) (by omega) (fun h65 => ?_) (fun h65 => ?_)
    · exfalso; omega
    · skip
      refine xp_aload_n rfl rfl ?_
      refine xp_gfa rfl rfl (by decide) (by decide) (by first | assumption | exact hL.t rfl) (by first | assumption | exact hL.r rfl | exact hL.2.2.2.2.2) ?_
      refine xp_iload_n rfl rfl ?_
      refine xp_aload_n rfl rfl ?_
      refine xp_gfa rfl rfl (by decide) (by decide) (by first | assumption | exact hL.t rfl) (by first | assumption | exact hL.r rfl | exact hL.2.2.2.2.2) ?_
      refine xp_iload_n rfl rfl ?_
      refine xp_iald rfl (by first | assumption | exact hL.t rfl) (by omega) (by omega) ?_
      refine xp_iast rfl (by first | assumption | exact hL.t rfl) (by omega) (by omega) ?_
      refine xp_aload_n rfl rfl ?_
      refine xp_gfa rfl rfl (by decide) (by decide) (by first | assumption | exact hL.t rfl) (by first | assumption | exact hL.r rfl | exact hL.2.2.2.2.2) ?_
      refine xp_iload_n rfl rfl ?_
      refine xp_aload_n rfl rfl ?_
      refine xp_gfa rfl rfl (by decide) (by decide) (by first | assumption | exact hL.t rfl) (by first | assumption | exact hL.r rfl | exact hL.2.2.2.2.2) ?_
      refine xp_iload_n rfl rfl ?_
      refine xp_iald rfl (by first | assumption | exact hL.t rfl) (by omega) (by omega) ?_
      rw [e1]
      refine xp_iast rfl (by first | assumption | exact hL.t rfl) (by omega) (by omega) ?_
      refine xp_aload_n rfl rfl ?_
      refine xp_gfa rfl rfl (by decide) (by decide) (by first | assumption | exact hL.t rfl) (by first | assumption | exact hL.r rfl | exact hL.2.2.2.2.2) ?_
      refine xp_iload_n rfl rfl ?_
      refine xp_aload_n rfl rfl ?_
      refine xp_gfa rfl rfl (by decide) (by decide) (by first | assumption | exact hL.t rfl) (by first | assumption | exact hL.r rfl | exact hL.2.2.2.2.2) ?_
      refine xp_iload_n rfl rfl ?_
      refine xp_iald rfl (by first | assumption | exact hL.t rfl) (by omega) (by omega) ?_
      rw [e2]
      refine xp_iast rfl (by first | assumption | exact hL.t rfl) (by omega) (by omega) ?_
      refine xp_iinc rfl rfl (by decide) (nI_inc _) ?_
      refine xp_goto 63 rfl (by decide) ?_
      refine xp_weak [(0, .ref 189), (1, .int (nI v)), (2, .int (nI (i + 1)))] (xle_cons rfl (xle_cons rfl (xle_cons rfl (xle_nil _)))) (by simp [xnd]) ?_
      exact hih
theorem l168b {z : Nat} {T : Nat → Option xT} {R : Nat → Nat → Option Nat} {w v : Nat} {Q : xR → Prop} (hL : xLay T R w) (hv : v ≤ 3) : ∀ (m i : Nat) (B : xQ), i + m = 15 → (∀ B2, (∀ a j, 202 ≤ a → a ≤ 205 → i ≤ j → j < 15 → B2.1 a j = B.1 (a + 18) j) → (∀ a j, (a < 202 ∨ 205 < a ∨ j < i ∨ 15 ≤ j) → B2.1 a j = B.1 a j) → B2.2 = B.2 → xP 168 172 [(0, .ref 189), (1, .int (nI v))] [] 0 0 (xm z T R B2) Q) → xP 168 112 [(0, .ref 189), (1, .int (nI v)), (2, .int (nI i))] [] 0 0 (xm z T R B) Q := by
  intro m
  induction m with
  | zero =>
    intro i B hi hQ
    have hQ2 := hQ B (fun a j _ _ q1 q2 => by omega) (fun _ _ _ => rfl) rfl
    refine xp_iload_n rfl rfl ?_
    refine xp_bipush (n := 15) rfl (by decide) ?_
    refine xp_icge 172 rfl (by decide) (by omega) (by omega) (fun h115 => ?_) (fun h115 => ?_)
    · skip
      refine xp_weak [(0, .ref 189), (1, .int (nI v))] (xle_cons rfl (xle_cons rfl (xle_nil _))) (by simp [xnd]) ?_
      exact hQ2
    · exfalso; omega
  | succ m ih =>
    intro i B hi hQ
    have e1 : (xsI B 202 i (B.1 220 i)).1 221 i = B.1 221 i := by rw [xsI_ne (by omega)]
    have e2 : (xsI (xsI B 202 i (B.1 220 i)) 203 i (B.1 221 i)).1 222 i = B.1 222 i := by rw [xsI_ne (by omega), xsI_ne (by omega)]
    have e3 : (xsI (xsI (xsI B 202 i (B.1 220 i)) 203 i (B.1 221 i)) 204 i (B.1 222 i)).1 223 i = B.1 223 i := by rw [xsI_ne (by omega), xsI_ne (by omega), xsI_ne (by omega)]
    have ne : ∀ a j, (a < 202 ∨ 205 < a ∨ j ≠ i) → (xsI (xsI (xsI (xsI B 202 i (B.1 220 i)) 203 i (B.1 221 i)) 204 i (B.1 222 i)) 205 i (B.1 223 i)).1 a j = B.1 a j := fun a j q => by rw [xsI_ne (by omega), xsI_ne (by omega), xsI_ne (by omega), xsI_ne (by omega)]
    have eq : ∀ a, 202 ≤ a → a ≤ 205 → (xsI (xsI (xsI (xsI B 202 i (B.1 220 i)) 203 i (B.1 221 i)) 204 i (B.1 222 i)) 205 i (B.1 223 i)).1 a i = B.1 (a + 18) i := fun a q1 q2 => by
      have h : a = 202 ∨ a = 203 ∨ a = 204 ∨ a = 205 := by omega
      rcases h with rfl | rfl | rfl | rfl
      · rw [xsI_ne (by omega), xsI_ne (by omega), xsI_ne (by omega), xsI_eq]
      · rw [xsI_ne (by omega), xsI_ne (by omega), xsI_eq]
      · rw [xsI_ne (by omega), xsI_eq]
      · rw [xsI_eq]
    have hih := ih (i + 1) (xsI (xsI (xsI (xsI B 202 i (B.1 220 i)) 203 i (B.1 221 i)) 204 i (B.1 222 i)) 205 i (B.1 223 i)) (by omega) (fun B2 h1 h2 h3 => hQ B2 (fun a j q1 q2 q3 q4 => by
      by_cases e : j = i
      · rw [e, h2 a i (by omega)]; exact eq a q1 q2
      · rw [h1 a j q1 q2 (by omega) q4]; exact ne _ _ (by omega)) (fun a j q => by rw [h2 a j (by omega)]; exact ne a j (by omega)) h3)
    refine xp_iload_n rfl rfl ?_
    refine xp_bipush (n := 15) rfl (by decide) ?_
    refine xp_icge 172 rfl (by decide) (by omega) (by omega) (fun h115 => ?_) (fun h115 => ?_)
    · exfalso; omega
    · skip
      refine xp_aload_n rfl rfl ?_
      refine xp_gfa rfl rfl (by decide) (by decide) (by first | assumption | exact hL.t rfl) (by first | assumption | exact hL.r rfl | exact hL.2.2.2.2.2) ?_
      refine xp_iload_n rfl rfl ?_
      refine xp_aload_n rfl rfl ?_
      refine xp_gfa rfl rfl (by decide) (by decide) (by first | assumption | exact hL.t rfl) (by first | assumption | exact hL.r rfl | exact hL.2.2.2.2.2) ?_
      refine xp_iload_n rfl rfl ?_
      refine xp_iald rfl (by first | assumption | exact hL.t rfl) (by omega) (by omega) ?_
      refine xp_iast rfl (by first | assumption | exact hL.t rfl) (by omega) (by omega) ?_
      refine xp_aload_n rfl rfl ?_
      refine xp_gfa rfl rfl (by decide) (by decide) (by first | assumption | exact hL.t rfl) (by first | assumption | exact hL.r rfl | exact hL.2.2.2.2.2) ?_
      refine xp_iload_n rfl rfl ?_
      refine xp_aload_n rfl rfl ?_
      refine xp_gfa rfl rfl (by decide) (by decide) (by first | assumption | exact hL.t rfl) (by first | assumption | exact hL.r rfl | exact hL.2.2.2.2.2) ?_
      refine xp_iload_n rfl rfl ?_
      refine xp_iald rfl (by first | assumption | exact hL.t rfl) (by omega) (by omega) ?_
      rw [e1]
      refine xp_iast rfl (by first | assumption | exact hL.t rfl) (by omega) (by omega) ?_
      refine xp_aload_n rfl rfl ?_
      refine xp_gfa rfl rfl (by decide) (by decide) (by first | assumption | exact hL.t rfl) (by first | assumption | exact hL.r rfl | exact hL.2.2.2.2.2) ?_
      refine xp_iload_n rfl rfl ?_
      refine xp_aload_n rfl rfl ?_
      refine xp_gfa rfl rfl (by decide) (by decide) (by first | assumption | exact hL.t rfl) (by first | assumption | exact hL.r rfl | exact hL.2.2.2.2.2) ?_
      refine xp_iload_n rfl rfl ?_
      refine xp_iald rfl (by first | assumption | exact hL.t rfl) (by omega) (by omega) ?_
      rw [e2]
      refine xp_iast rfl (by first | assumption | exact hL.t rfl) (by omega) (by omega) ?_
      refine xp_aload_n rfl rfl ?_
      refine xp_gfa rfl rfl (by decide) (by decide) (by first | assumption | exact hL.t rfl) (by first | assumption | exact hL.r rfl | exact hL.2.2.2.2.2) ?_
      refine xp_iload_n rfl rfl ?_
      refine xp_aload_n rfl rfl ?_
      refine xp_gfa rfl rfl (by decide) (by decide) (by first | assumption | exact hL.t rfl) (by first | assumption | exact hL.r rfl | exact hL.2.2.2.2.2) ?_
      refine xp_iload_n rfl rfl ?_
      refine xp_iald rfl (by first | assumption | exact hL.t rfl) (by omega) (by omega) ?_
      rw [e3]
      refine xp_iast rfl (by first | assumption | exact hL.t rfl) (by omega) (by omega) ?_
      refine xp_iinc rfl rfl (by decide) (nI_inc _) ?_
      refine xp_goto 112 rfl (by decide) ?_
      refine xp_weak [(0, .ref 189), (1, .int (nI v)), (2, .int (nI (i + 1)))] (xle_cons rfl (xle_cons rfl (xle_cons rfl (xle_nil _)))) (by simp [xnd]) ?_
      exact hih
theorem l168c {z : Nat} {T : Nat → Option xT} {R : Nat → Nat → Option Nat} {w v : Nat} {Q : xR → Prop} (hL : xLay T R w) : ∀ (m i : Nat) (B : xQ), i + m = 240 → (∀ B2, (∀ j, i ≤ j → j < 240 → B2.1 206 j = B.1 224 j ∧ B2.2 207 j = B.2 228 j) → (∀ a j, (a ≠ 206 ∨ j < i) → B2.1 a j = B.1 a j) → (∀ a j, (a ≠ 207 ∨ j < i) → B2.2 a j = B.2 a j) → xP 168 204 [(0, .ref 189), (1, .int (nI v))] [] 0 0 (xm z T R B2) Q) → xP 168 174 [(0, .ref 189), (1, .int (nI v)), (2, .int (nI i))] [] 0 0 (xm z T R B) Q := by
  intro m
  induction m with
  | zero =>
    intro i B hi hQ
    have hQ2 := hQ B (fun j q1 q2 => by omega) (fun _ _ _ => rfl) (fun _ _ _ => rfl)
    refine xp_iload_n rfl rfl ?_
    refine xp_sipush (n := 240) rfl (by decide) ?_
    refine xp_icge 204 rfl (by decide) (by omega) (by omega) (fun h178 => ?_) (fun h178 => ?_)
    · skip
      refine xp_weak [(0, .ref 189), (1, .int (nI v))] (xle_cons rfl (xle_cons rfl (xle_nil _))) (by simp [xnd]) ?_
      exact hQ2
    · exfalso; omega
  | succ m ih =>
    intro i B hi hQ
    have hst := m120 (z := z) (B := B) (v := i) (s := B.1 224 i) (n := B.2 228 i) hL (by omega)
    have hih := ih (i + 1) (mSet B i (B.1 224 i) (B.2 228 i)) (by omega) (fun B2 h1 h2 h3 => hQ B2 (fun j q1 q2 => by
      by_cases e : j = i
      · rw [e, h2 206 i (by omega), h3 207 i (by omega)]
        exact ⟨mSet_1e, by show (xsJ _ 207 i _).2 207 i = _; rw [xsJ_eq]⟩
      · obtain ⟨k1, k2⟩ := h1 j (by omega) q2
        rw [k1, k2]
        exact ⟨mSet_1 (by omega), mSet_2 (by omega)⟩) (fun a j q => by rw [h2 a j (by omega)]; exact mSet_1 (by omega)) (fun a j q => by rw [h3 a j (by omega)]; exact mSet_2 (by omega)))
    refine xp_iload_n rfl rfl ?_
    refine xp_sipush (n := 240) rfl (by decide) ?_
    refine xp_icge 204 rfl (by decide) (by omega) (by omega) (fun h178 => ?_) (fun h178 => ?_)
    · exfalso; omega
    · skip
      refine xp_aload_n rfl rfl ?_
      refine xp_iload_n rfl rfl ?_
      refine xp_aload_n rfl rfl ?_
      refine xp_gfa rfl rfl (by decide) (by decide) (by first | assumption | exact hL.t rfl) (by first | assumption | exact hL.r rfl | exact hL.2.2.2.2.2) ?_
      refine xp_iload_n rfl rfl ?_
      refine xp_iald rfl (by first | assumption | exact hL.t rfl) (by omega) (by omega) ?_
      refine xp_aload_n rfl rfl ?_
      refine xp_gfa rfl rfl (by decide) (by decide) (by first | assumption | exact hL.t rfl) (by first | assumption | exact hL.r rfl | exact hL.2.2.2.2.2) ?_
      refine xp_iload_n rfl rfl ?_
      refine xp_lald rfl (by first | assumption | exact hL.t rfl) (by omega) (by omega) ?_
      refine xp_iv rfl rfl (Nat.le_of_ble_eq_true rfl) (by decide) (by decide) (by decide) (Nat.le_of_ble_eq_true rfl) rfl (xrcv1 (by decide) (by first | assumption | exact hL.t rfl)) (hst) rfl ?_
      refine xp_iinc rfl rfl (by decide) (nI_inc _) ?_
      refine xp_goto 174 rfl (by decide) ?_
      refine xp_weak [(0, .ref 189), (1, .int (nI v)), (2, .int (nI (i + 1)))] (xle_cons rfl (xle_cons rfl (xle_cons rfl (xle_nil _)))) (by simp [xnd]) ?_
      exact hih
theorem l168d {z : Nat} {T : Nat → Option xT} {R : Nat → Nat → Option Nat} {w v c : Nat} {Q : xR → Prop} (hL : xLay T R w) (hc : c ≤ 24) : ∀ (m i : Nat) (B : xQ), i + m = 24 → B.1 189 40 = c → (∀ B2, (∀ j, i ≤ j → j < 24 → B2.1 208 j = (if j < c then 1 else 0) ∧ B2.1 210 j = B.1 225 j ∧ B2.1 211 j = B.1 226 j ∧ B2.1 212 j = B.1 227 j) → (∀ a j, (a < 208 ∨ a = 209 ∨ 212 < a ∨ j < i) → B2.1 a j = B.1 a j) → B2.2 = B.2 → xP 168 273 [(0, .ref 189), (1, .int (nI v))] [] 0 0 (xm z T R B2) Q) → xP 168 206 [(0, .ref 189), (1, .int (nI v)), (2, .int (nI i))] [] 0 0 (xm z T R B) Q := by
  intro m
  induction m with
  | zero =>
    intro i B hi hb hQ
    have hQ2 := hQ B (fun j q1 q2 => by omega) (fun _ _ _ => rfl) rfl
    refine xp_iload_n rfl rfl ?_
    refine xp_bipush (n := 24) rfl (by decide) ?_
    refine xp_icge 273 rfl (by decide) (by omega) (by omega) (fun h209 => ?_) (fun h209 => ?_)
    · skip
      refine xp_weak [(0, .ref 189), (1, .int (nI v))] (xle_cons rfl (xle_cons rfl (xle_nil _))) (by simp [xnd]) ?_
      exact hQ2
    · exfalso; omega
  | succ m ih =>
    intro i B hi hb hQ
    have e0 : (xsI B 208 i (if i < c then 1 else 0)).1 225 i = B.1 225 i := xsI_ne (by omega)
    have e1 : (xsI (xsI B 208 i (if i < c then 1 else 0)) 210 i (B.1 225 i)).1 226 i = B.1 226 i := by rw [xsI_ne (by omega), xsI_ne (by omega)]
    have e2 : (xsI (xsI (xsI B 208 i (if i < c then 1 else 0)) 210 i (B.1 225 i)) 211 i (B.1 226 i)).1 227 i = B.1 227 i := by rw [xsI_ne (by omega), xsI_ne (by omega), xsI_ne (by omega)]
    have ne : ∀ a j, (a < 208 ∨ a = 209 ∨ 212 < a ∨ j ≠ i) → (xsI (xsI (xsI (xsI B 208 i (if i < c then 1 else 0)) 210 i (B.1 225 i)) 211 i (B.1 226 i)) 212 i (B.1 227 i)).1 a j = B.1 a j := fun a j q => by rw [xsI_ne (by omega), xsI_ne (by omega), xsI_ne (by omega), xsI_ne (by omega)]
    have hih := ih (i + 1) (xsI (xsI (xsI (xsI B 208 i (if i < c then 1 else 0)) 210 i (B.1 225 i)) 211 i (B.1 226 i)) 212 i (B.1 227 i)) (by omega) (by rw [ne _ _ (by omega)]; exact hb) (fun B2 h1 h2 h3 => hQ B2 (fun j q1 q2 => by
      by_cases e : j = i
      · rw [e, h2 208 i (by omega), h2 210 i (by omega), h2 211 i (by omega), h2 212 i (by omega)]
        exact ⟨by rw [xsI_ne (by omega), xsI_ne (by omega), xsI_ne (by omega), xsI_eq], by rw [xsI_ne (by omega), xsI_ne (by omega), xsI_eq], by rw [xsI_ne (by omega), xsI_eq], xsI_eq⟩
      · obtain ⟨k1, k2, k3, k4⟩ := h1 j (by omega) q2
        exact ⟨k1, by rw [k2]; exact ne _ _ (by omega), by rw [k3]; exact ne _ _ (by omega), by rw [k4]; exact ne _ _ (by omega)⟩) (fun a j q => by rw [h2 a j (by omega)]; exact ne a j (by omega)) h3)
    by_cases hic : i < c
    · rw [if_pos hic] at e0 e1 e2 hih
      refine xp_iload_n rfl rfl ?_
      refine xp_bipush (n := 24) rfl (by decide) ?_
      refine xp_icge 273 rfl (by decide) (by omega) (by omega) (fun h209 => ?_) (fun h209 => ?_)
      · exfalso; omega
      · skip
        refine xp_aload_n rfl rfl ?_
        refine xp_gfa rfl rfl (by decide) (by decide) (by first | assumption | exact hL.t rfl) (by first | assumption | exact hL.r rfl | exact hL.2.2.2.2.2) ?_
        refine xp_iload_n rfl rfl ?_
        refine xp_iload_n rfl rfl ?_
        refine xp_aload_n rfl rfl ?_
        refine xp_gfi rfl rfl (by decide) (by decide) (by first | assumption | exact hL.t rfl) ?_
        rw [hb]
        refine xp_icge 229 rfl (by decide) (by omega) (by omega) (fun h222 => ?_) (fun h222 => ?_)
        · exfalso; omega
        · skip
          refine xp_iconst (n := 1) rfl (by decide) ?_
          refine xp_goto 230 rfl (by decide) ?_
          refine xp_bast rfl (by first | assumption | exact hL.t rfl) (by omega) (by omega) (by omega) ?_
          refine xp_aload_n rfl rfl ?_
          refine xp_gfa rfl rfl (by decide) (by decide) (by first | assumption | exact hL.t rfl) (by first | assumption | exact hL.r rfl | exact hL.2.2.2.2.2) ?_
          refine xp_iload_n rfl rfl ?_
          refine xp_aload_n rfl rfl ?_
          refine xp_gfa rfl rfl (by decide) (by decide) (by first | assumption | exact hL.t rfl) (by first | assumption | exact hL.r rfl | exact hL.2.2.2.2.2) ?_
          refine xp_iload_n rfl rfl ?_
          refine xp_iald rfl (by first | assumption | exact hL.t rfl) (by omega) (by omega) ?_
          rw [e0]
          refine xp_iast rfl (by first | assumption | exact hL.t rfl) (by omega) (by omega) ?_
          refine xp_aload_n rfl rfl ?_
          refine xp_gfa rfl rfl (by decide) (by decide) (by first | assumption | exact hL.t rfl) (by first | assumption | exact hL.r rfl | exact hL.2.2.2.2.2) ?_
          refine xp_iload_n rfl rfl ?_
          refine xp_aload_n rfl rfl ?_
          refine xp_gfa rfl rfl (by decide) (by decide) (by first | assumption | exact hL.t rfl) (by first | assumption | exact hL.r rfl | exact hL.2.2.2.2.2) ?_
          refine xp_iload_n rfl rfl ?_
          refine xp_iald rfl (by first | assumption | exact hL.t rfl) (by omega) (by omega) ?_
          rw [e1]
          refine xp_iast rfl (by first | assumption | exact hL.t rfl) (by omega) (by omega) ?_
          refine xp_aload_n rfl rfl ?_
          refine xp_gfa rfl rfl (by decide) (by decide) (by first | assumption | exact hL.t rfl) (by first | assumption | exact hL.r rfl | exact hL.2.2.2.2.2) ?_
          refine xp_iload_n rfl rfl ?_
          refine xp_aload_n rfl rfl ?_
          refine xp_gfa rfl rfl (by decide) (by decide) (by first | assumption | exact hL.t rfl) (by first | assumption | exact hL.r rfl | exact hL.2.2.2.2.2) ?_
          refine xp_iload_n rfl rfl ?_
          refine xp_iald rfl (by first | assumption | exact hL.t rfl) (by omega) (by omega) ?_
          rw [e2]
          refine xp_iast rfl (by first | assumption | exact hL.t rfl) (by omega) (by omega) ?_
          refine xp_iinc rfl rfl (by decide) (nI_inc _) ?_
          refine xp_goto 206 rfl (by decide) ?_
          refine xp_weak [(0, .ref 189), (1, .int (nI v)), (2, .int (nI (i + 1)))] (xle_cons rfl (xle_cons rfl (xle_cons rfl (xle_nil _)))) (by simp [xnd]) ?_
          exact hih
    · rw [if_neg hic] at e0 e1 e2 hih
      refine xp_iload_n rfl rfl ?_
      refine xp_bipush (n := 24) rfl (by decide) ?_
      refine xp_icge 273 rfl (by decide) (by omega) (by omega) (fun h209 => ?_) (fun h209 => ?_)
      · exfalso; omega
      · skip
        refine xp_aload_n rfl rfl ?_
        refine xp_gfa rfl rfl (by decide) (by decide) (by first | assumption | exact hL.t rfl) (by first | assumption | exact hL.r rfl | exact hL.2.2.2.2.2) ?_
        refine xp_iload_n rfl rfl ?_
        refine xp_iload_n rfl rfl ?_
        refine xp_aload_n rfl rfl ?_
        refine xp_gfi rfl rfl (by decide) (by decide) (by first | assumption | exact hL.t rfl) ?_
        rw [hb]
        refine xp_icge 229 rfl (by decide) (by omega) (by omega) (fun h222 => ?_) (fun h222 => ?_)
        · skip
          refine xp_iconst (n := 0) rfl (by decide) ?_
          refine xp_bast rfl (by first | assumption | exact hL.t rfl) (by omega) (by omega) (by omega) ?_
          refine xp_aload_n rfl rfl ?_
          refine xp_gfa rfl rfl (by decide) (by decide) (by first | assumption | exact hL.t rfl) (by first | assumption | exact hL.r rfl | exact hL.2.2.2.2.2) ?_
          refine xp_iload_n rfl rfl ?_
          refine xp_aload_n rfl rfl ?_
          refine xp_gfa rfl rfl (by decide) (by decide) (by first | assumption | exact hL.t rfl) (by first | assumption | exact hL.r rfl | exact hL.2.2.2.2.2) ?_
          refine xp_iload_n rfl rfl ?_
          refine xp_iald rfl (by first | assumption | exact hL.t rfl) (by omega) (by omega) ?_
          rw [e0]
          refine xp_iast rfl (by first | assumption | exact hL.t rfl) (by omega) (by omega) ?_
          refine xp_aload_n rfl rfl ?_
          refine xp_gfa rfl rfl (by decide) (by decide) (by first | assumption | exact hL.t rfl) (by first | assumption | exact hL.r rfl | exact hL.2.2.2.2.2) ?_
          refine xp_iload_n rfl rfl ?_
          refine xp_aload_n rfl rfl ?_
          refine xp_gfa rfl rfl (by decide) (by decide) (by first | assumption | exact hL.t rfl) (by first | assumption | exact hL.r rfl | exact hL.2.2.2.2.2) ?_
          refine xp_iload_n rfl rfl ?_
          refine xp_iald rfl (by first | assumption | exact hL.t rfl) (by omega) (by omega) ?_
          rw [e1]
          refine xp_iast rfl (by first | assumption | exact hL.t rfl) (by omega) (by omega) ?_
          refine xp_aload_n rfl rfl ?_
          refine xp_gfa rfl rfl (by decide) (by decide) (by first | assumption | exact hL.t rfl) (by first | assumption | exact hL.r rfl | exact hL.2.2.2.2.2) ?_
          refine xp_iload_n rfl rfl ?_
          refine xp_aload_n rfl rfl ?_
          refine xp_gfa rfl rfl (by decide) (by decide) (by first | assumption | exact hL.t rfl) (by first | assumption | exact hL.r rfl | exact hL.2.2.2.2.2) ?_
          refine xp_iload_n rfl rfl ?_
          refine xp_iald rfl (by first | assumption | exact hL.t rfl) (by omega) (by omega) ?_
          rw [e2]
          refine xp_iast rfl (by first | assumption | exact hL.t rfl) (by omega) (by omega) ?_
          refine xp_iinc rfl rfl (by decide) (nI_inc _) ?_
          refine xp_goto 206 rfl (by decide) ?_
          refine xp_weak [(0, .ref 189), (1, .int (nI v)), (2, .int (nI (i + 1)))] (xle_cons rfl (xle_cons rfl (xle_cons rfl (xle_nil _)))) (by simp [xnd]) ?_
          exact hih
        · exfalso; omega
/-- the reference has copied all -/
def Cop (v c : Nat) (B B2 : xQ) : Prop := (∀ a j, 199 ≤ a → a ≤ 201 → j < v → B2.1 a j = B.1 (a + 18) j) ∧ (∀ a j, 202 ≤ a → a ≤ 205 → j < 15 → B2.1 a j = B.1 (a + 18) j) ∧ (∀ j, j < 240 → B2.1 206 j = B.1 224 j ∧ B2.2 207 j = B.2 228 j) ∧ (∀ j, j < 24 → B2.1 208 j = (if j < c then 1 else 0) ∧ B2.1 210 j = B.1 225 j ∧ B2.1 211 j = B.1 226 j ∧ B2.1 212 j = B.1 227 j) ∧ (∀ a j, a ≠ 189 → (a < 199 ∨ 212 < a) → B2.1 a j = B.1 a j) ∧ (∀ a j, a ≠ 207 → B2.2 a j = B.2 a j) ∧ (∀ j, j ≠ 14 → j ≠ 15 → j ≠ 16 → B2.1 189 j = B.1 189 j) ∧ B2.1 189 14 = 0 ∧ B2.1 189 15 = c ∧ B2.1 189 16 = 1
def mRs (B : xQ) : xQ := xsI (xsI (xsI (xsI (xsI B 189 38 0) 189 37 4294967294) 189 39 0) 189 53 0) 189 54 0
theorem m168b {z : Nat} {T : Nat → Option xT} {R : Nat → Nat → Option Nat} {B B1 : xQ} {w v : Nat} (hL : xLay T R w) (h167 : xF 167 [.ref 189] (xm z T R (mRs B)) (.inr (some (.int (nI v))), xm z T R B1)) (h0 : B1.1 189 38 ≠ 0) (h2 : B1.1 189 38 ≤ 2) : xF 168 [.ref 189] (xm z T R B) (.inr (some (.int (nI 0))), xm z T R (xsI B1 189 14 (B1.1 189 38))) := by
  have e : (xsI B1 189 14 (B1.1 189 38)).1 189 38 = B1.1 189 38 := xsI_ne (by omega)
  refine xF_eq (xF_p (Nat.le_of_ble_eq_true rfl) ?_)
  refine xp_aload_n rfl rfl ?_
  refine xp_iconst (n := 0) rfl (by decide) ?_
  refine xp_pfi rfl rfl (by decide) (by decide) (by decide) (by first | assumption | exact hL.t rfl) ?_
  refine xp_aload_n rfl rfl ?_
  refine xp_bipush (n := 4294967294) rfl (by decide) ?_
  refine xp_pfi rfl rfl (by decide) (by decide) (by decide) (by first | assumption | exact hL.t rfl) ?_
  refine xp_aload_n rfl rfl ?_
  refine xp_iconst (n := 0) rfl (by decide) ?_
  refine xp_pfi rfl rfl (by decide) (by decide) (by decide) (by first | assumption | exact hL.t rfl) ?_
  refine xp_aload_n rfl rfl ?_
  refine xp_iconst (n := 0) rfl (by decide) ?_
  refine xp_pfi rfl rfl (by decide) (by decide) (by decide) (by first | assumption | exact hL.t rfl) ?_
  refine xp_aload_n rfl rfl ?_
  refine xp_iconst (n := 0) rfl (by decide) ?_
  refine xp_pfz rfl rfl (by decide) (by decide) (by decide) (by first | assumption | exact hL.t rfl) (by omega) ?_
  refine xp_aload_n rfl rfl ?_
  refine xp_iv rfl rfl (Nat.le_of_ble_eq_true rfl) (by decide) (by decide) (by decide) (Nat.le_of_ble_eq_true rfl) rfl (xrcv1 (by decide) (by first | assumption | exact hL.t rfl)) (h167) rfl ?_
  refine xp_istore_n rfl (by decide) ?_
  refine xp_aload_n rfl rfl ?_
  refine xp_aload_n rfl rfl ?_
  refine xp_gfi rfl rfl (by decide) (by decide) (by first | assumption | exact hL.t rfl) ?_
  refine xp_pfi rfl rfl (by decide) (by decide) (by decide) (by first | assumption | exact hL.t rfl) ?_
  refine xp_aload_n rfl rfl ?_
  refine xp_gfi rfl rfl (by decide) (by decide) (by first | assumption | exact hL.t rfl) ?_
  rw [e]
  refine xp_ifle 48 rfl (by decide) (by omega) (fun h43 => ?_) (fun h43 => ?_)
  · exfalso; omega
  · skip
    refine xp_iconst (n := 0) rfl (by decide) ?_
    refine xp_ireturn rfl (by decide) (by decide) (by decide) ?_
    rfl
theorem m168a {z : Nat} {T : Nat → Option xT} {R : Nat → Nat → Option Nat} {B B1 : xQ} {w v c : Nat} (hL : xLay T R w) (h167 : xF 167 [.ref 189] (xm z T R (mRs B)) (.inr (some (.int (nI v))), xm z T R B1)) (h0 : B1.1 189 38 = 0) (hv : v ≤ 3) (hc : c ≤ 24) (h40 : B1.1 189 40 = c) : ∃ B2, xF 168 [.ref 189] (xm z T R B) (.inr (some (.int (nI v))), xm z T R B2) ∧ Cop v c B1 B2 := by
  have e : (xsI B1 189 14 0).1 189 38 = 0 := by rw [xsI_ne (by omega)]; exact h0
  have e40 : (xsI (xsI B1 189 14 0) 189 16 1).1 189 40 = c := by rw [xsI_ne (by omega), xsI_ne (by omega)]; exact h40
  have en : ∀ a j, (a ≠ 189 ∨ (j ≠ 14 ∧ j ≠ 15 ∧ j ≠ 16)) → (xsI (xsI (xsI B1 189 14 0) 189 16 1) 189 15 c).1 a j = B1.1 a j := fun a j q => by rw [xsI_ne (by omega), xsI_ne (by omega), xsI_ne (by omega)]
  have e14 : (xsI (xsI (xsI B1 189 14 0) 189 16 1) 189 15 c).1 189 14 = 0 := by rw [xsI_ne (by omega), xsI_ne (by omega), xsI_eq]
  have e15 : (xsI (xsI (xsI B1 189 14 0) 189 16 1) 189 15 c).1 189 15 = c := xsI_eq
  have e16 : (xsI (xsI (xsI B1 189 14 0) 189 16 1) 189 15 c).1 189 16 = 1 := by rw [xsI_ne (by omega), xsI_eq]
  refine xF_x (xF_p (Nat.le_of_ble_eq_true rfl) ?_)
  refine xp_aload_n rfl rfl ?_
  refine xp_iconst (n := 0) rfl (by decide) ?_
  refine xp_pfi rfl rfl (by decide) (by decide) (by decide) (by first | assumption | exact hL.t rfl) ?_
  refine xp_aload_n rfl rfl ?_
  refine xp_bipush (n := 4294967294) rfl (by decide) ?_
  refine xp_pfi rfl rfl (by decide) (by decide) (by decide) (by first | assumption | exact hL.t rfl) ?_
  refine xp_aload_n rfl rfl ?_
  refine xp_iconst (n := 0) rfl (by decide) ?_
  refine xp_pfi rfl rfl (by decide) (by decide) (by decide) (by first | assumption | exact hL.t rfl) ?_
  refine xp_aload_n rfl rfl ?_
  refine xp_iconst (n := 0) rfl (by decide) ?_
  refine xp_pfi rfl rfl (by decide) (by decide) (by decide) (by first | assumption | exact hL.t rfl) ?_
  refine xp_aload_n rfl rfl ?_
  refine xp_iconst (n := 0) rfl (by decide) ?_
  refine xp_pfz rfl rfl (by decide) (by decide) (by decide) (by first | assumption | exact hL.t rfl) (by omega) ?_
  refine xp_aload_n rfl rfl ?_
  refine xp_iv rfl rfl (Nat.le_of_ble_eq_true rfl) (by decide) (by decide) (by decide) (Nat.le_of_ble_eq_true rfl) rfl (xrcv1 (by decide) (by first | assumption | exact hL.t rfl)) (h167) rfl ?_
  refine xp_istore_n rfl (by decide) ?_
  refine xp_aload_n rfl rfl ?_
  refine xp_aload_n rfl rfl ?_
  refine xp_gfi rfl rfl (by decide) (by decide) (by first | assumption | exact hL.t rfl) ?_
  rw [h0]
  refine xp_pfi rfl rfl (by decide) (by decide) (by decide) (by first | assumption | exact hL.t rfl) ?_
  refine xp_aload_n rfl rfl ?_
  refine xp_gfi rfl rfl (by decide) (by decide) (by first | assumption | exact hL.t rfl) ?_
  rw [e]
  refine xp_ifle 48 rfl (by decide) (by omega) (fun h43 => ?_) (fun h43 => ?_)
  · skip
    refine xp_aload_n rfl rfl ?_
    refine xp_iconst (n := 1) rfl (by decide) ?_
    refine xp_pfz rfl rfl (by decide) (by decide) (by decide) (by first | assumption | exact hL.t rfl) (by omega) ?_
    refine xp_aload_n rfl rfl ?_
    refine xp_aload_n rfl rfl ?_
    refine xp_gfi rfl rfl (by decide) (by decide) (by first | assumption | exact hL.t rfl) ?_
    rw [e40]
    refine xp_pfi rfl rfl (by decide) (by decide) (by decide) (by first | assumption | exact hL.t rfl) ?_
    refine xp_iconst (n := 0) rfl (by decide) ?_
    refine xp_istore_n rfl (by decide) ?_
    refine xp_weak [(0, .ref 189), (1, .int (nI v)), (2, .int (nI 0))] (xle_cons rfl (xle_cons rfl (xle_cons rfl (xle_nil _)))) (by simp [xnd]) ?_
    have rfl2 : ∀ a j, (xsI (xsI (xsI B1 189 14 0) 189 16 1) 189 15 c).2 a j = B1.2 a j := fun _ _ => rfl
    generalize xsI (xsI (xsI B1 189 14 0) 189 16 1) 189 15 c = C at *
    refine l168a hL hv v 0 C (by omega) (fun B2 a1 a2 a3 => ?_)
    refine xp_iconst (n := 0) rfl (by decide) ?_
    refine xp_istore_n rfl (by decide) ?_
    refine xp_weak [(0, .ref 189), (1, .int (nI v)), (2, .int (nI 0))] (xle_cons rfl (xle_cons rfl (xle_cons rfl (xle_nil _)))) (by simp [xnd]) ?_
    refine l168b hL hv 15 0 B2 (by omega) (fun B3 b1 b2 b3 => ?_)
    refine xp_iconst (n := 0) rfl (by decide) ?_
    refine xp_istore_n rfl (by decide) ?_
    refine xp_weak [(0, .ref 189), (1, .int (nI v)), (2, .int (nI 0))] (xle_cons rfl (xle_cons rfl (xle_cons rfl (xle_nil _)))) (by simp [xnd]) ?_
    refine l168c hL 240 0 B3 (by omega) (fun B4 c1 c2 c3 => ?_)
    refine xp_iconst (n := 0) rfl (by decide) ?_
    refine xp_istore_n rfl (by decide) ?_
    refine xp_weak [(0, .ref 189), (1, .int (nI v)), (2, .int (nI 0))] (xle_cons rfl (xle_cons rfl (xle_cons rfl (xle_nil _)))) (by simp [xnd]) ?_
    refine l168d (c := c) hL hc 24 0 B4 (by omega) (by rw [c2 _ _ (by omega), b2 _ _ (by omega), a2 _ _ (by omega), en _ _ (by omega)]; exact h40) (fun B5 d1 d2 d3 => ?_)
    refine xp_iload_n rfl rfl ?_
    refine xp_ireturn rfl (by decide) (by decide) (by decide) ?_
    refine ⟨B5, rfl, fun a j q1 q2 q3 => ?_, fun a j q1 q2 q3 => ?_, fun j q => ?_, fun j q => ?_, fun a j q1 q2 => ?_, fun a j q => ?_, fun j q1 q2 q3 => ?_, ?_, ?_, ?_⟩
    · rw [d2 a j (by omega), c2 a j (by omega), b2 a j (by omega), a1 a j q1 q2 (by omega) q3]; exact en _ _ (by omega)
    · rw [d2 a j (by omega), c2 a j (by omega), b1 a j q1 q2 (by omega) q3, a2 _ _ (by omega)]; exact en _ _ (by omega)
    · obtain ⟨k1, k2⟩ := c1 j (by omega) q
      rw [d2 _ _ (by omega), d3, k1, k2, b2 _ _ (by omega), a2 _ _ (by omega), b3, a3]
      exact ⟨en _ _ (by omega), rfl2 228 j⟩
    · obtain ⟨k1, k2, k3, k4⟩ := d1 j (by omega) q
      rw [k1, k2, k3, k4, c2 225 _ (by omega), c2 226 _ (by omega), c2 227 _ (by omega), b2 225 _ (by omega), b2 226 _ (by omega), b2 227 _ (by omega), a2 225 _ (by omega), a2 226 _ (by omega), a2 227 _ (by omega)]
      exact ⟨rfl, en _ _ (by omega), en _ _ (by omega), en _ _ (by omega)⟩
    · rw [d2 a j (by omega), c2 a j (by omega), b2 a j (by omega), a2 a j (by omega)]; exact en _ _ (by omega)
    · rw [d3, c3 a j (by omega), b3, a3]; exact rfl2 a j
    · rw [d2 _ _ (by omega), c2 _ _ (by omega), b2 _ _ (by omega), a2 _ _ (by omega)]; exact en _ _ (by omega)
    · rw [d2 _ _ (by omega), c2 _ _ (by omega), b2 _ _ (by omega), a2 _ _ (by omega)]; exact e14
    · rw [d2 _ _ (by omega), c2 _ _ (by omega), b2 _ _ (by omega), a2 _ _ (by omega)]; exact e15
    · rw [d2 _ _ (by omega), c2 _ _ (by omega), b2 _ _ (by omega), a2 _ _ (by omega)]; exact e16
  · exfalso; omega
