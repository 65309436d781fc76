-- THE REFERENCE: its small methods
theorem xsI_same {A : xQ} {a k u v : Nat} : xsI (xsI A a k u) a k v = xsI A a k v := by
  unfold xsI x2
  congr 1
  funext b j
  dsimp only
  split
  · split <;> rfl
  · rfl
theorem m111 {z : Nat} {T : Nat → Option xT} {R : Nat → Nat → Option Nat} {B : xQ} {w : Nat} (hL : xLay T R w) : xF 111 [.ref 189] (xm z T R B) (.inr (some (.int (nI (B.1 189 14)))), xm z T R B) := by
  refine xF_eq (xF_p (Nat.le_of_ble_eq_true rfl) ?_)
  refine xp_aload_n rfl rfl ?_
  refine xp_gfi rfl rfl (by decide) (by decide) (by first | assumption | exact hL.t rfl) ?_
  refine xp_ireturn rfl (by decide) (by decide) (by decide) ?_
  rfl
def mIn (v lo hi : Nat) : Nat := if sg lo ≤ sg v ∧ sg v ≤ sg hi then 1 else 0
theorem mIn_le (v lo hi : Nat) : mIn v lo hi = 0 ∨ mIn v lo hi = 1 := by unfold mIn; split <;> simp
theorem m112 {z : Nat} {T : Nat → Option xT} {R : Nat → Nat → Option Nat} {B : xQ} {v lo hi : Nat} (h1 : v < 2 ^ 32) (h2 : lo < 2 ^ 32) (h3 : hi < 2 ^ 32) : xF 112 [.int (nI v), .int (nI lo), .int (nI hi)] (xm z T R B) (.inr (some (.int (nI (mIn v lo hi)))), xm z T R B) := by
  refine xF_eq (xF_p (Nat.le_of_ble_eq_true rfl) ?_)
  refine xp_iload_n rfl rfl ?_
  refine xp_iload_n rfl rfl ?_
  refine xp_icltS 14 rfl (by decide) (by omega) (by omega) (fun h2 => ?_) (fun h2 => ?_)
  · skip
    refine xp_iconst (n := 0) rfl (by decide) ?_
    refine xp_zreturn rfl (by decide) (by decide) (by decide) (by omega) ?_
    unfold mIn
    first | (rw [if_pos (by omega)]) | (rw [if_neg (by omega)])
  · skip
    refine xp_iload_n rfl rfl ?_
    refine xp_iload_n rfl rfl ?_
    refine xp_icgtS 14 rfl (by decide) (by omega) (by omega) (fun h7 => ?_) (fun h7 => ?_)
    · skip
      refine xp_iconst (n := 0) rfl (by decide) ?_
      refine xp_zreturn rfl (by decide) (by decide) (by decide) (by omega) ?_
      unfold mIn
      first | (rw [if_pos (by omega)]) | (rw [if_neg (by omega)])
    · skip
      refine xp_iconst (n := 1) rfl (by decide) ?_
      refine xp_goto 15 rfl (by decide) ?_
      refine xp_zreturn rfl (by decide) (by decide) (by decide) (by omega) ?_
      unfold mIn
      first | (rw [if_pos (by omega)]) | (rw [if_neg (by omega)])
theorem m113 {z : Nat} {T : Nat → Option xT} {R : Nat → Nat → Option Nat} {B : xQ} {w c : Nat} (hL : xLay T R w) : xF 113 [.ref 189, .int (nI c)] (xm z T R B) (.inr (some (.int (nI 0))), xm z T R (xsI B 189 14 c)) := by
  refine xF_eq (xF_p (Nat.le_of_ble_eq_true rfl) ?_)
  refine xp_aload_n rfl rfl ?_
  refine xp_iload_n rfl rfl ?_
  refine xp_pfi rfl rfl (by decide) (by decide) (by decide) (by first | assumption | exact hL.t rfl) ?_
  refine xp_iconst (n := 0) rfl (by decide) ?_
  refine xp_ireturn rfl (by decide) (by decide) (by decide) ?_
  rfl
def mMostA (o : Nat) : Nat := if o = 4 ∨ o = 5 then 3 else if o = 17 ∨ o = 18 then 2 else if o = 19 ∨ o = 21 ∨ o = 26 then 5 else if o = 20 then 1 else 4294967295
def mMostB (o : Nat) : Nat := if o = 14 ∨ o = 15 then 29 else if o = 19 then 2 else 4294967295
theorem m115 {z : Nat} {T : Nat → Option xT} {R : Nat → Nat → Option Nat} {B : xQ} {x : Nat} (h1 : x < 2 ^ 32) : xF 115 [.int (nI x)] (xm z T R B) (.inr (some (.int (nI (mMostA x)))), xm z T R B) := by
  refine xF_eq (xF_p (Nat.le_of_ble_eq_true rfl) ?_)
  refine xp_iload_n rfl rfl ?_
  refine xp_iconst (n := 4) rfl (by decide) ?_
  refine xp_iceq 10 rfl (by decide) (by omega) (by omega) (fun h2 => ?_) (fun h2 => ?_)
  · skip
    refine xp_iconst (n := 3) rfl (by decide) ?_
    refine xp_goto 63 rfl (by decide) ?_
    refine xp_ireturn rfl (by decide) (by decide) (by decide) ?_
    unfold mMostA
    repeat (first | rw [if_pos (by omega)] | rw [if_neg (by omega)])
  · skip
    refine xp_iload_n rfl rfl ?_
    refine xp_iconst (n := 5) rfl (by decide) ?_
    refine xp_icne 14 rfl (by decide) (by omega) (by omega) (fun h7 => ?_) (fun h7 => ?_)
    · skip
      refine xp_iload_n rfl rfl ?_
      refine xp_bipush (n := 17) rfl (by decide) ?_
      refine xp_iceq 26 rfl (by decide) (by omega) (by omega) (fun h17 => ?_) (fun h17 => ?_)
      · skip
        refine xp_iconst (n := 2) rfl (by decide) ?_
        refine xp_goto 63 rfl (by decide) ?_
        refine xp_ireturn rfl (by decide) (by decide) (by decide) ?_
        unfold mMostA
        repeat (first | rw [if_pos (by omega)] | rw [if_neg (by omega)])
      · skip
        refine xp_iload_n rfl rfl ?_
        refine xp_bipush (n := 18) rfl (by decide) ?_
        refine xp_icne 30 rfl (by decide) (by omega) (by omega) (fun h23 => ?_) (fun h23 => ?_)
        · skip
          refine xp_iload_n rfl rfl ?_
          refine xp_bipush (n := 19) rfl (by decide) ?_
          refine xp_iceq 48 rfl (by decide) (by omega) (by omega) (fun h33 => ?_) (fun h33 => ?_)
          · skip
            refine xp_iconst (n := 5) rfl (by decide) ?_
            refine xp_goto 63 rfl (by decide) ?_
            refine xp_ireturn rfl (by decide) (by decide) (by decide) ?_
            unfold mMostA
            repeat (first | rw [if_pos (by omega)] | rw [if_neg (by omega)])
          · skip
            refine xp_iload_n rfl rfl ?_
            refine xp_bipush (n := 21) rfl (by decide) ?_
            refine xp_iceq 48 rfl (by decide) (by omega) (by omega) (fun h39 => ?_) (fun h39 => ?_)
            · skip
              refine xp_iconst (n := 5) rfl (by decide) ?_
              refine xp_goto 63 rfl (by decide) ?_
              refine xp_ireturn rfl (by decide) (by decide) (by decide) ?_
              unfold mMostA
              repeat (first | rw [if_pos (by omega)] | rw [if_neg (by omega)])
            · skip
              refine xp_iload_n rfl rfl ?_
              refine xp_bipush (n := 26) rfl (by decide) ?_
              refine xp_icne 52 rfl (by decide) (by omega) (by omega) (fun h45 => ?_) (fun h45 => ?_)
              · skip
                refine xp_iload_n rfl rfl ?_
                refine xp_bipush (n := 20) rfl (by decide) ?_
                refine xp_icne 62 rfl (by decide) (by omega) (by omega) (fun h55 => ?_) (fun h55 => ?_)
                · skip
                  refine xp_iconst (n := 4294967295) rfl (by decide) ?_
                  refine xp_ireturn rfl (by decide) (by decide) (by decide) ?_
                  unfold mMostA
                  repeat (first | rw [if_pos (by omega)] | rw [if_neg (by omega)])
                · skip
                  refine xp_iconst (n := 1) rfl (by decide) ?_
                  refine xp_goto 63 rfl (by decide) ?_
                  refine xp_ireturn rfl (by decide) (by decide) (by decide) ?_
                  unfold mMostA
                  repeat (first | rw [if_pos (by omega)] | rw [if_neg (by omega)])
              · skip
                refine xp_iconst (n := 5) rfl (by decide) ?_
                refine xp_goto 63 rfl (by decide) ?_
                refine xp_ireturn rfl (by decide) (by decide) (by decide) ?_
                unfold mMostA
                repeat (first | rw [if_pos (by omega)] | rw [if_neg (by omega)])
        · skip
          refine xp_iconst (n := 2) rfl (by decide) ?_
          refine xp_goto 63 rfl (by decide) ?_
          refine xp_ireturn rfl (by decide) (by decide) (by decide) ?_
          unfold mMostA
          repeat (first | rw [if_pos (by omega)] | rw [if_neg (by omega)])
    · skip
      refine xp_iconst (n := 3) rfl (by decide) ?_
      refine xp_goto 63 rfl (by decide) ?_
      refine xp_ireturn rfl (by decide) (by decide) (by decide) ?_
      unfold mMostA
      repeat (first | rw [if_pos (by omega)] | rw [if_neg (by omega)])
theorem m116 {z : Nat} {T : Nat → Option xT} {R : Nat → Nat → Option Nat} {B : xQ} {x : Nat} (h1 : x < 2 ^ 32) : xF 116 [.int (nI x)] (xm z T R B) (.inr (some (.int (nI (mMostB x)))), xm z T R B) := by
  refine xF_eq (xF_p (Nat.le_of_ble_eq_true rfl) ?_)
  refine xp_iload_n rfl rfl ?_
  refine xp_bipush (n := 14) rfl (by decide) ?_
  refine xp_iceq 12 rfl (by decide) (by omega) (by omega) (fun h3 => ?_) (fun h3 => ?_)
  · skip
    refine xp_bipush (n := 29) rfl (by decide) ?_
    refine xp_goto 28 rfl (by decide) ?_
    refine xp_ireturn rfl (by decide) (by decide) (by decide) ?_
    unfold mMostB
    repeat (first | rw [if_pos (by omega)] | rw [if_neg (by omega)])
  · skip
    refine xp_iload_n rfl rfl ?_
    refine xp_bipush (n := 15) rfl (by decide) ?_
    refine xp_icne 17 rfl (by decide) (by omega) (by omega) (fun h9 => ?_) (fun h9 => ?_)
    · skip
      refine xp_iload_n rfl rfl ?_
      refine xp_bipush (n := 19) rfl (by decide) ?_
      refine xp_icne 27 rfl (by decide) (by omega) (by omega) (fun h20 => ?_) (fun h20 => ?_)
      · skip
        refine xp_iconst (n := 4294967295) rfl (by decide) ?_
        refine xp_ireturn rfl (by decide) (by decide) (by decide) ?_
        unfold mMostB
        repeat (first | rw [if_pos (by omega)] | rw [if_neg (by omega)])
      · skip
        refine xp_iconst (n := 2) rfl (by decide) ?_
        refine xp_goto 28 rfl (by decide) ?_
        refine xp_ireturn rfl (by decide) (by decide) (by decide) ?_
        unfold mMostB
        repeat (first | rw [if_pos (by omega)] | rw [if_neg (by omega)])
    · skip
      refine xp_bipush (n := 29) rfl (by decide) ?_
      refine xp_goto 28 rfl (by decide) ?_
      refine xp_ireturn rfl (by decide) (by decide) (by decide) ?_
      unfold mMostB
      repeat (first | rw [if_pos (by omega)] | rw [if_neg (by omega)])
theorem m120 {z : Nat} {T : Nat → Option xT} {R : Nat → Nat → Option Nat} {B : xQ} {w v s : Nat} {n : Int64} (hL : xLay T R w) (hv : v < 240) : xF 120 [.ref 189, .int (nI v), .int (nI s), .long n] (xm z T R B) (.inr (none), xm z T R (mSet B v s n)) := by
  refine xF_eq (xF_p (Nat.le_of_ble_eq_true rfl) ?_)
  refine xp_aload_n rfl rfl ?_
  refine xp_gfa rfl rfl (by decide) (by decide) (by first | assumption | exact hL.t rfl) (by first | assumption | exact hL.r rfl | exact hL.2.2.2.2.2) ?_
  refine xp_iload_n rfl rfl ?_
  refine xp_iload_n rfl rfl ?_
  refine xp_iast rfl (by first | assumption | exact hL.t rfl) (by omega) (by omega) ?_
  refine xp_aload_n rfl rfl ?_
  refine xp_gfa rfl rfl (by decide) (by decide) (by first | assumption | exact hL.t rfl) (by first | assumption | exact hL.r rfl | exact hL.2.2.2.2.2) ?_
  refine xp_iload_n rfl rfl ?_
  refine xp_lload_n rfl rfl ?_
  refine xp_last rfl (by first | assumption | exact hL.t rfl) (by omega) (by omega) ?_
  refine xp_return rfl (by decide) (by decide) (by decide) ?_
  rfl
theorem m121 {z : Nat} {T : Nat → Option xT} {R : Nat → Nat → Option Nat} {B : xQ} {w v u : Nat} (hL : xLay T R w) (hv : v < 240) (hu : u < 240) : xF 121 [.ref 189, .int (nI v), .int (nI u)] (xm z T R B) (.inr (none), xm z T R (mSet B v (B.1 206 u) (B.2 207 u))) := by
  refine xF_eq (xF_p (Nat.le_of_ble_eq_true rfl) ?_)
  refine xp_aload_n rfl rfl ?_
  refine xp_iload_n rfl rfl ?_
  refine xp_aload_n rfl rfl ?_
  refine xp_gfa rfl rfl (by decide) (by decide) (by first | assumption | exact hL.t rfl) (by first | assumption | exact hL.r rfl | exact hL.2.2.2.2.2) ?_
  refine xp_iload_n rfl rfl ?_
  refine xp_iald rfl (by first | assumption | exact hL.t rfl) (by omega) (by omega) ?_
  refine xp_aload_n rfl rfl ?_
  refine xp_gfa rfl rfl (by decide) (by decide) (by first | assumption | exact hL.t rfl) (by first | assumption | exact hL.r rfl | exact hL.2.2.2.2.2) ?_
  refine xp_iload_n rfl rfl ?_
  refine xp_lald rfl (by first | assumption | exact hL.t rfl) (by omega) (by omega) ?_
  refine xp_iv rfl rfl (Nat.le_of_ble_eq_true rfl) (by decide) (by decide) (by decide) (Nat.le_of_ble_eq_true rfl) rfl (xrcv1 (by decide) (by first | assumption | exact hL.t rfl)) (m120 hL hv) rfl ?_
  refine xp_return rfl (by decide) (by decide) (by decide) ?_
  rfl
theorem m122 {z : Nat} {T : Nat → Option xT} {R : Nat → Nat → Option Nat} {B : xQ} {w : Nat} (hL : xLay T R w) (h1 : B.1 189 10 < 3) (h2 : 1 ≤ B.1 201 (B.1 189 10)) : xF 122 [.ref 189] (xm z T R B) (.inr (some (.int (nI (5 * B.1 189 10 + B.1 201 (B.1 189 10) - 1)))), xm z T R B) := by
  refine xF_eq (xF_p (Nat.le_of_ble_eq_true rfl) ?_)
  refine xp_iconst (n := 5) rfl (by decide) ?_
  refine xp_aload_n rfl rfl ?_
  refine xp_gfi rfl rfl (by decide) (by decide) (by first | assumption | exact hL.t rfl) ?_
  refine xp_imul rfl ?_
  refine xp_aload_n rfl rfl ?_
  refine xp_gfa rfl rfl (by decide) (by decide) (by first | assumption | exact hL.t rfl) (by first | assumption | exact hL.r rfl | exact hL.2.2.2.2.2) ?_
  refine xp_aload_n rfl rfl ?_
  refine xp_gfi rfl rfl (by decide) (by decide) (by first | assumption | exact hL.t rfl) ?_
  refine xp_iald rfl (by first | assumption | exact hL.t rfl) (by omega) (by omega) ?_
  refine xp_iadd rfl ?_
  refine xp_iconst (n := 1) rfl (by decide) ?_
  refine xp_isub rfl (by omega) ?_
  refine xp_ireturn rfl (by decide) (by decide) (by decide) ?_
  rfl
theorem m123 {z : Nat} {T : Nat → Option xT} {R : Nat → Nat → Option Nat} {B : xQ} {w f k : Nat} (hL : xLay T R w) (hf : f < 15) (hk : k ≤ 10 * f + 3 + B.1 205 f) : xF 123 [.ref 189, .int (nI f), .int (nI k)] (xm z T R B) (.inr (some (.int (nI (10 * f + 3 + B.1 205 f - k)))), xm z T R B) := by
  refine xF_eq (xF_p (Nat.le_of_ble_eq_true rfl) ?_)
  refine xp_bipush (n := 10) rfl (by decide) ?_
  refine xp_iload_n rfl rfl ?_
  refine xp_imul rfl ?_
  refine xp_iconst (n := 3) rfl (by decide) ?_
  refine xp_iadd rfl ?_
  refine xp_aload_n rfl rfl ?_
  refine xp_gfa rfl rfl (by decide) (by decide) (by first | assumption | exact hL.t rfl) (by first | assumption | exact hL.r rfl | exact hL.2.2.2.2.2) ?_
  refine xp_iload_n rfl rfl ?_
  refine xp_iald rfl (by first | assumption | exact hL.t rfl) (by omega) (by omega) ?_
  refine xp_iadd rfl ?_
  refine xp_iload_n rfl rfl ?_
  refine xp_isub rfl (by omega) ?_
  refine xp_ireturn rfl (by decide) (by decide) (by decide) ?_
  rfl
theorem m124 {z : Nat} {T : Nat → Option xT} {R : Nat → Nat → Option Nat} {B : xQ} {w m s : Nat} {n : Int64} (hL : xLay T R w) (hm : m < 15) (hd : B.1 205 m ≤ 5) : xF 124 [.ref 189, .int (nI m), .int (nI s), .long n] (xm z T R B) (.inr (none), xm z T R (mPush B m s n)) := by
  have e0 : 10 * m + 3 + (xsI B 205 m (B.1 205 m + 1)).1 205 m - 0 = 10 * m + 4 + B.1 205 m := by rw [xsI_eq]; omega
  refine xF_eq (xF_p (Nat.le_of_ble_eq_true rfl) ?_)
  refine xp_aload_n rfl rfl ?_
  refine xp_gfa rfl rfl (by decide) (by decide) (by first | assumption | exact hL.t rfl) (by first | assumption | exact hL.r rfl | exact hL.2.2.2.2.2) ?_
  refine xp_iload_n rfl rfl ?_
  refine xp_dup2 rfl rfl rfl ?_
  refine xp_iald rfl (by first | assumption | exact hL.t rfl) (by omega) (by omega) ?_
  refine xp_iconst (n := 1) rfl (by decide) ?_
  refine xp_iadd rfl ?_
  refine xp_iast rfl (by first | assumption | exact hL.t rfl) (by omega) (by omega) ?_
  refine xp_aload_n rfl rfl ?_
  refine xp_aload_n rfl rfl ?_
  refine xp_iload_n rfl rfl ?_
  refine xp_iconst (n := 0) rfl (by decide) ?_
  refine xp_iv rfl rfl (Nat.le_of_ble_eq_true rfl) (by decide) (by decide) (by decide) (Nat.le_of_ble_eq_true rfl) rfl (xrcv1 (by decide) (by first | assumption | exact hL.t rfl)) (m123 hL hm (by omega)) rfl ?_
  rw [e0]
  refine xp_iload_n rfl rfl ?_
  refine xp_lload_n rfl rfl ?_
  refine xp_iv rfl rfl (Nat.le_of_ble_eq_true rfl) (by decide) (by decide) (by decide) (Nat.le_of_ble_eq_true rfl) rfl (xrcv1 (by decide) (by first | assumption | exact hL.t rfl)) (m120 hL (by omega)) rfl ?_
  refine xp_return rfl (by decide) (by decide) (by decide) ?_
  rfl
def mNul (v i : Nat) (B : xQ) : xQ := mSet B (v + i) 0 0
def mBegin (B : xQ) (t fn c : Nat) : xQ := xit (mNul (10 * (5 * t + B.1 201 t))) 4 0 (xsI (xsI (xsI (xsI (xsI B 201 t (B.1 201 t + 1)) 202 (5 * t + B.1 201 t) fn) 203 (5 * t + B.1 201 t) 0) 204 (5 * t + B.1 201 t) c) 205 (5 * t + B.1 201 t) 0)
theorem l125 {z : Nat} {T : Nat → Option xT} {R : Nat → Nat → Option Nat} {w t fn c k : Nat} (hL : xLay T R w) (hk : k < 15) : ∀ (m i : Nat) (B : xQ), i + m = 4 → xP 125 57 [(0, .ref 189), (1, .int (nI t)), (2, .int (nI fn)), (3, .int (nI c)), (4, .int (nI k)), (5, .int (nI i))] [] 0 0 (xm z T R B) (fun r => r = (.inr none, xm z T R (xit (mNul (10 * k)) m i B))) := by
  intro m
  induction m with
  | zero =>
    intro i B hi
    refine xp_iload rfl rfl ?_
    refine xp_iconst (n := 4) rfl (by decide) ?_
    refine xp_icge 83 rfl (by decide) (by omega) (by omega) (fun h60 => ?_) (fun h60 => ?_)
    · skip
      refine xp_return rfl (by decide) (by decide) (by decide) ?_
      rfl
    · exfalso; omega
  | succ m ih =>
    intro i B hi
    refine xp_iload rfl rfl ?_
    refine xp_iconst (n := 4) rfl (by decide) ?_
    refine xp_icge 83 rfl (by decide) (by omega) (by omega) (fun h60 => ?_) (fun h60 => ?_)
    · exfalso; omega
    · skip
      refine xp_aload_n rfl rfl ?_
      refine xp_bipush (n := 10) rfl (by decide) ?_
      refine xp_iload rfl rfl ?_
      refine xp_imul rfl ?_
      refine xp_iload rfl rfl ?_
      refine xp_iadd rfl ?_
      refine xp_iconst (n := 0) rfl (by decide) ?_
      refine xp_lconst rfl rfl ?_
      refine xp_iv rfl rfl (Nat.le_of_ble_eq_true rfl) (by decide) (by decide) (by decide) (Nat.le_of_ble_eq_true rfl) rfl (xrcv1 (by decide) (by first | assumption | exact hL.t rfl)) (m120 hL (by omega)) rfl ?_
      refine xp_iinc rfl rfl (by decide) (nI_inc _) ?_
      refine xp_goto 57 rfl (by decide) ?_
      refine xp_weak [(0, .ref 189), (1, .int (nI t)), (2, .int (nI fn)), (3, .int (nI c)), (4, .int (nI k)), (5, .int (nI (i + 1)))] (xle_cons rfl (xle_cons rfl (xle_cons rfl (xle_cons rfl (xle_cons rfl (xle_cons rfl (xle_nil _))))))) (by simp [xnd]) ?_
      exact ih (i + 1) _ (by omega)
theorem m125 {z : Nat} {T : Nat → Option xT} {R : Nat → Nat → Option Nat} {B : xQ} {w t fn c : Nat} (hL : xLay T R w) (ht : t < 3) (hf : B.1 201 t < 5) : xF 125 [.ref 189, .int (nI t), .int (nI fn), .int (nI c)] (xm z T R B) (.inr (none), xm z T R (mBegin B t fn c)) := by
  refine xF_eq (xF_p (Nat.le_of_ble_eq_true rfl) ?_)
  refine xp_iconst (n := 5) rfl (by decide) ?_
  refine xp_iload_n rfl rfl ?_
  refine xp_imul rfl ?_
  refine xp_aload_n rfl rfl ?_
  refine xp_gfa rfl rfl (by decide) (by decide) (by first | assumption | exact hL.t rfl) (by first | assumption | exact hL.r rfl | exact hL.2.2.2.2.2) ?_
  refine xp_iload_n rfl rfl ?_
  refine xp_iald rfl (by first | assumption | exact hL.t rfl) (by omega) (by omega) ?_
  refine xp_iadd rfl ?_
  refine xp_istore rfl (by decide) ?_
  refine xp_aload_n rfl rfl ?_
  refine xp_gfa rfl rfl (by decide) (by decide) (by first | assumption | exact hL.t rfl) (by first | assumption | exact hL.r rfl | exact hL.2.2.2.2.2) ?_
  refine xp_iload_n rfl rfl ?_
  refine xp_dup2 rfl rfl rfl ?_
  refine xp_iald rfl (by first | assumption | exact hL.t rfl) (by omega) (by omega) ?_
  refine xp_iconst (n := 1) rfl (by decide) ?_
  refine xp_iadd rfl ?_
  refine xp_iast rfl (by first | assumption | exact hL.t rfl) (by omega) (by omega) ?_
  refine xp_aload_n rfl rfl ?_
  refine xp_gfa rfl rfl (by decide) (by decide) (by first | assumption | exact hL.t rfl) (by first | assumption | exact hL.r rfl | exact hL.2.2.2.2.2) ?_
  refine xp_iload rfl rfl ?_
  refine xp_iload_n rfl rfl ?_
  refine xp_iast rfl (by first | assumption | exact hL.t rfl) (by omega) (by omega) ?_
  refine xp_aload_n rfl rfl ?_
  refine xp_gfa rfl rfl (by decide) (by decide) (by first | assumption | exact hL.t rfl) (by first | assumption | exact hL.r rfl | exact hL.2.2.2.2.2) ?_
  refine xp_iload rfl rfl ?_
  refine xp_iconst (n := 0) rfl (by decide) ?_
  refine xp_iast rfl (by first | assumption | exact hL.t rfl) (by omega) (by omega) ?_
  refine xp_aload_n rfl rfl ?_
  refine xp_gfa rfl rfl (by decide) (by decide) (by first | assumption | exact hL.t rfl) (by first | assumption | exact hL.r rfl | exact hL.2.2.2.2.2) ?_
  refine xp_iload rfl rfl ?_
  refine xp_iload_n rfl rfl ?_
  refine xp_iast rfl (by first | assumption | exact hL.t rfl) (by omega) (by omega) ?_
  refine xp_aload_n rfl rfl ?_
  refine xp_gfa rfl rfl (by decide) (by decide) (by first | assumption | exact hL.t rfl) (by first | assumption | exact hL.r rfl | exact hL.2.2.2.2.2) ?_
  refine xp_iload rfl rfl ?_
  refine xp_iconst (n := 0) rfl (by decide) ?_
  refine xp_iast rfl (by first | assumption | exact hL.t rfl) (by omega) (by omega) ?_
  refine xp_iconst (n := 0) rfl (by decide) ?_
  refine xp_istore rfl (by decide) ?_
  refine xp_weak [(0, .ref 189), (1, .int (nI t)), (2, .int (nI fn)), (3, .int (nI c)), (4, .int (nI (5 * t + B.1 201 t))), (5, .int (nI 0))] (xle_cons rfl (xle_cons rfl (xle_cons rfl (xle_cons rfl (xle_cons rfl (xle_cons rfl (xle_nil _))))))) (by simp [xnd]) ?_
  exact l125 hL (by omega) 4 0 _ (by omega)
/-- arguments, from the uppermost down -/
def mPass (f k : Nat) : Nat → xQ → xQ
  | 0, B => B
  | n + 1, B => mPass f k n (xsI (mSet B (10 * k + n) (B.1 206 (10 * f + 3 + B.1 205 f)) (B.2 207 (10 * f + 3 + B.1 205 f))) 205 f (B.1 205 f - 1))
theorem l126 {z : Nat} {T : Nat → Option xT} {R : Nat → Nat → Option Nat} {w f k n0 : Nat} (hL : xLay T R w) (hf : f < 15) (hk : k < 15) : ∀ (n : Nat) (B : xQ), n ≤ 2 → n ≤ B.1 205 f → B.1 205 f ≤ 6 → xP 126 5 [(0, .ref 189), (1, .int (nI f)), (2, .int (nI k)), (3, .int (nI n0)), (4, .int (nI n - nI 1))] [] 0 0 (xm z T R B) (fun r => r = (.inr none, xm z T R (mPass f k n B))) := by
  intro n
  induction n with
  | zero =>
    intro B hn hn2 h6
    have e0 : nI 0 - nI 1 = nI 4294967295 := by decide
    rw [e0]
    refine xp_iload rfl rfl ?_
    refine xp_iflt 43 rfl (by decide) (by omega) (fun h7 => ?_) (fun h7 => ?_)
    · skip
      refine xp_return rfl (by decide) (by decide) (by decide) ?_
      rfl
    · exfalso; omega
  | succ n ih =>
    intro B hn hn2 h6
    have e0 : nI (n + 1) - nI 1 = nI n := by rw [nI_sub (by omega), Nat.add_sub_cancel]
    have e1 : nI n + Int32.ofInt (-1) = nI n - nI 1 := by
      show nI n + (-1) = nI n - 1
      rw [Int32.sub_eq_add_neg]
    have e2 : 10 * f + 3 + B.1 205 f - 0 = 10 * f + 3 + B.1 205 f := by omega
    rw [e0]
    refine xp_iload rfl rfl ?_
    refine xp_iflt 43 rfl (by decide) (by omega) (fun h7 => ?_) (fun h7 => ?_)
    · exfalso; omega
    · skip
      refine xp_aload_n rfl rfl ?_
      refine xp_bipush (n := 10) rfl (by decide) ?_
      refine xp_iload_n rfl rfl ?_
      refine xp_imul rfl ?_
      refine xp_iload rfl rfl ?_
      refine xp_iadd rfl ?_
      refine xp_aload_n rfl rfl ?_
      refine xp_iload_n rfl rfl ?_
      refine xp_iconst (n := 0) rfl (by decide) ?_
      refine xp_iv rfl rfl (Nat.le_of_ble_eq_true rfl) (by decide) (by decide) (by decide) (Nat.le_of_ble_eq_true rfl) rfl (xrcv1 (by decide) (by first | assumption | exact hL.t rfl)) (m123 hL hf (by omega)) rfl ?_
      rw [e2]
      refine xp_iv rfl rfl (Nat.le_of_ble_eq_true rfl) (by decide) (by decide) (by decide) (Nat.le_of_ble_eq_true rfl) rfl (xrcv1 (by decide) (by first | assumption | exact hL.t rfl)) (m121 hL (by omega) (by omega)) rfl ?_
      refine xp_aload_n rfl rfl ?_
      refine xp_gfa rfl rfl (by decide) (by decide) (by first | assumption | exact hL.t rfl) (by first | assumption | exact hL.r rfl | exact hL.2.2.2.2.2) ?_
      refine xp_iload_n rfl rfl ?_
      refine xp_dup2 rfl rfl rfl ?_
      refine xp_iald rfl (by first | assumption | exact hL.t rfl) (by omega) (by omega) ?_
      refine xp_iconst (n := 1) rfl (by decide) ?_
      refine xp_isub rfl (by rw [mSet_1 (by omega)]; omega) ?_
      rw [mSet_1 (by omega)]
      refine xp_iast rfl (by first | assumption | exact hL.t rfl) (by omega) (by omega) ?_
      refine xp_iincR rfl rfl (by decide) e1 ?_
      refine xp_goto 5 rfl (by decide) ?_
      refine xp_weak [(0, .ref 189), (1, .int (nI f)), (2, .int (nI k)), (3, .int (nI n0)), (4, .int (nI n - nI 1))] (xle_cons rfl (xle_cons rfl (xle_cons rfl (xle_cons rfl (xle_cons rfl (xle_nil _)))))) (by simp [xnd]) ?_
      exact ih _ (by omega) (by rw [xsI_eq]; omega) (by rw [xsI_eq]; omega)
theorem m126 {z : Nat} {T : Nat → Option xT} {R : Nat → Nat → Option Nat} {B : xQ} {w f k n : Nat} (hL : xLay T R w) (hf : f < 15) (hk : k < 15) (hn : n ≤ 2) (hn2 : n ≤ B.1 205 f) (h6 : B.1 205 f ≤ 6) : xF 126 [.ref 189, .int (nI f), .int (nI k), .int (nI n)] (xm z T R B) (.inr (none), xm z T R (mPass f k n B)) := by
  refine xF_eq (xF_p (Nat.le_of_ble_eq_true rfl) ?_)
  refine xp_iload_n rfl rfl ?_
  refine xp_iconst (n := 1) rfl (by decide) ?_
  refine xp_isubR rfl ?_
  refine xp_istore rfl (by decide) ?_
  refine xp_weak [(0, .ref 189), (1, .int (nI f)), (2, .int (nI k)), (3, .int (nI n)), (4, .int (nI n - nI 1))] (xle_cons rfl (xle_cons rfl (xle_cons rfl (xle_cons rfl (xle_cons rfl (xle_nil _)))))) (by simp [xnd]) ?_
  exact l126 hL hf hk n B hn hn2 h6
def mMark (B : xQ) (v : Nat) : Nat × xQ := if B.1 206 v < 3 then (0, B) else if B.1 209 (oN (B.2 207 v)) = 0 then (1, xsI B 209 (oN (B.2 207 v)) 1) else (0, B)
theorem m128 {z : Nat} {T : Nat → Option xT} {R : Nat → Nat → Option Nat} {B : xQ} {w v : Nat} (hL : xLay T R w) (hv : v < 240) (hk : B.1 206 v ≤ 4) (ho : 3 ≤ B.1 206 v → oN (B.2 207 v) < 24) (hf : 3 ≤ B.1 206 v → B.1 209 (oN (B.2 207 v)) ≤ 1) : xF 128 [.ref 189, .int (nI v)] (xm z T R B) (.inr (some (.int (nI (mMark B v).1))), xm z T R (mMark B v).2) := by
  refine xF_eq (xF_p (Nat.le_of_ble_eq_true rfl) ?_)
  refine xp_aload_n rfl rfl ?_
  refine xp_gfa rfl rfl (by decide) (by decide) (by first | assumption | exact hL.t rfl) (by first | assumption | exact hL.r rfl | exact hL.2.2.2.2.2) ?_
  refine xp_iload_n rfl rfl ?_
  refine xp_iald rfl (by first | assumption | exact hL.t rfl) (by omega) (by omega) ?_
  refine xp_iconst (n := 3) rfl (by decide) ?_
  refine xp_iclt 25 rfl (by decide) (by omega) (by omega) (fun h7 => ?_) (fun h7 => ?_)
  · skip
    refine xp_iconst (n := 0) rfl (by decide) ?_
    refine xp_zreturn rfl (by decide) (by decide) (by decide) (by omega) ?_
    unfold mMark
    repeat (first | rw [if_pos (by omega)] | rw [if_neg (by omega)])
  · skip
    have o1 := ho h7
    have o2 := hf h7
    refine xp_aload_n rfl rfl ?_
    refine xp_gfa rfl rfl (by decide) (by decide) (by first | assumption | exact hL.t rfl) (by first | assumption | exact hL.r rfl | exact hL.2.2.2.2.2) ?_
    refine xp_aload_n rfl rfl ?_
    refine xp_gfa rfl rfl (by decide) (by decide) (by first | assumption | exact hL.t rfl) (by first | assumption | exact hL.r rfl | exact hL.2.2.2.2.2) ?_
    refine xp_iload_n rfl rfl ?_
    refine xp_lald rfl (by first | assumption | exact hL.t rfl) (by omega) (by omega) ?_
    refine xp_l2i rfl ?_
    rw [oN_i]
    refine xp_bald rfl (by first | assumption | exact hL.t rfl) (by omega) (by omega) ?_
    refine xp_ifeq 27 rfl (by decide) (by omega) (fun h22 => ?_) (fun h22 => ?_)
    · skip
      refine xp_aload_n rfl rfl ?_
      refine xp_gfa rfl rfl (by decide) (by decide) (by first | assumption | exact hL.t rfl) (by first | assumption | exact hL.r rfl | exact hL.2.2.2.2.2) ?_
      refine xp_aload_n rfl rfl ?_
      refine xp_gfa rfl rfl (by decide) (by decide) (by first | assumption | exact hL.t rfl) (by first | assumption | exact hL.r rfl | exact hL.2.2.2.2.2) ?_
      refine xp_iload_n rfl rfl ?_
      refine xp_lald rfl (by first | assumption | exact hL.t rfl) (by omega) (by omega) ?_
      refine xp_l2i rfl ?_
      rw [oN_i]
      refine xp_iconst (n := 1) rfl (by decide) ?_
      refine xp_bast rfl (by first | assumption | exact hL.t rfl) (by omega) (by omega) (by omega) ?_
      refine xp_iconst (n := 1) rfl (by decide) ?_
      refine xp_zreturn rfl (by decide) (by decide) (by decide) (by omega) ?_
      unfold mMark
      repeat (first | rw [if_pos (by omega)] | rw [if_neg (by omega)])
    · skip
      refine xp_iconst (n := 0) rfl (by decide) ?_
      refine xp_zreturn rfl (by decide) (by decide) (by decide) (by omega) ?_
      unfold mMark
      repeat (first | rw [if_pos (by omega)] | rw [if_neg (by omega)])
def mMakeAt (B : xQ) (o k : Nat) : xQ := xit (mNul (160 + 3 * o)) 3 0 (xsI (xsI (xsI (xsI B 208 o 1) 210 o k) 212 o 0) 189 15 (B.1 189 15 + 1))
theorem l132b {z : Nat} {T : Nat → Option xT} {R : Nat → Nat → Option Nat} {w k o : Nat} (hL : xLay T R w) (ho : o < 24) : ∀ (m i : Nat) (B : xQ), i + m = 3 → xP 132 50 [(0, .ref 189), (1, .int (nI k)), (2, .int (nI o)), (3, .int (nI i))] [] 0 0 (xm z T R B) (fun r => r = (.inr (some (.int (nI o))), xm z T R (xit (mNul (160 + 3 * o)) m i B))) := by
  intro m
  induction m with
  | zero =>
    intro i B hi
    refine xp_iload_n rfl rfl ?_
    refine xp_iconst (n := 3) rfl (by decide) ?_
    refine xp_icge 76 rfl (by decide) (by omega) (by omega) (fun h52 => ?_) (fun h52 => ?_)
    · skip
      refine xp_iload_n rfl rfl ?_
      refine xp_ireturn rfl (by decide) (by decide) (by decide) ?_
      rfl
    · exfalso; omega
  | succ m ih =>
    intro i B hi
    refine xp_iload_n rfl rfl ?_
    refine xp_iconst (n := 3) rfl (by decide) ?_
    refine xp_icge 76 rfl (by decide) (by omega) (by omega) (fun h52 => ?_) (fun h52 => ?_)
    · exfalso; omega
    · skip
      refine xp_aload_n rfl rfl ?_
      refine xp_sipush (n := 160) rfl (by decide) ?_
      refine xp_iconst (n := 3) rfl (by decide) ?_
      refine xp_iload_n rfl rfl ?_
      refine xp_imul rfl ?_
      refine xp_iadd rfl ?_
      refine xp_iload_n rfl rfl ?_
      refine xp_iadd rfl ?_
      refine xp_iconst (n := 0) rfl (by decide) ?_
      refine xp_lconst rfl rfl ?_
      refine xp_iv rfl rfl (Nat.le_of_ble_eq_true rfl) (by decide) (by decide) (by decide) (Nat.le_of_ble_eq_true rfl) rfl (xrcv1 (by decide) (by first | assumption | exact hL.t rfl)) (m120 hL (by omega)) rfl ?_
      refine xp_iinc rfl rfl (by decide) (nI_inc _) ?_
      refine xp_goto 50 rfl (by decide) ?_
      refine xp_weak [(0, .ref 189), (1, .int (nI k)), (2, .int (nI o)), (3, .int (nI (i + 1)))] (xle_cons rfl (xle_cons rfl (xle_cons rfl (xle_cons rfl (xle_nil _))))) (by simp [xnd]) ?_
      exact ih (i + 1) _ (by omega)
theorem l132 {z : Nat} {T : Nat → Option xT} {R : Nat → Nat → Option Nat} {B : xQ} {w k o : Nat} (hL : xLay T R w) (ho : o < 24) (h0 : B.1 208 o = 0) (hb : ∀ q, q < o → B.1 208 q = 1) : ∀ (m i : Nat), i + m = o → xP 132 2 [(0, .ref 189), (1, .int (nI k)), (2, .int (nI i))] [] 0 0 (xm z T R B) (fun r => r = (.inr (some (.int (nI o))), xm z T R (mMakeAt B o k))) := by
  intro m
  induction m with
  | zero =>
    intro i hi
    have hio : i = o := by omega
    subst hio
    refine xp_aload_n rfl rfl ?_
    refine xp_gfa rfl rfl (by decide) (by decide) (by first | assumption | exact hL.t rfl) (by first | assumption | exact hL.r rfl | exact hL.2.2.2.2.2) ?_
    refine xp_iload_n rfl rfl ?_
    refine xp_bald rfl (by first | assumption | exact hL.t rfl) (by omega) (by omega) ?_
    refine xp_ifeq 17 rfl (by decide) (by omega) (fun h8 => ?_) (fun h8 => ?_)
    · skip
      refine xp_aload_n rfl rfl ?_
      refine xp_gfa rfl rfl (by decide) (by decide) (by first | assumption | exact hL.t rfl) (by first | assumption | exact hL.r rfl | exact hL.2.2.2.2.2) ?_
      refine xp_iload_n rfl rfl ?_
      refine xp_iconst (n := 1) rfl (by decide) ?_
      refine xp_bast rfl (by first | assumption | exact hL.t rfl) (by omega) (by omega) (by omega) ?_
      refine xp_aload_n rfl rfl ?_
      refine xp_gfa rfl rfl (by decide) (by decide) (by first | assumption | exact hL.t rfl) (by first | assumption | exact hL.r rfl | exact hL.2.2.2.2.2) ?_
      refine xp_iload_n rfl rfl ?_
      refine xp_iload_n rfl rfl ?_
      refine xp_iast rfl (by first | assumption | exact hL.t rfl) (by omega) (by omega) ?_
      refine xp_aload_n rfl rfl ?_
      refine xp_gfa rfl rfl (by decide) (by decide) (by first | assumption | exact hL.t rfl) (by first | assumption | exact hL.r rfl | exact hL.2.2.2.2.2) ?_
      refine xp_iload_n rfl rfl ?_
      refine xp_iconst (n := 0) rfl (by decide) ?_
      refine xp_iast rfl (by first | assumption | exact hL.t rfl) (by omega) (by omega) ?_
      refine xp_aload_n rfl rfl ?_
      refine xp_dup rfl rfl ?_
      refine xp_gfi rfl rfl (by decide) (by decide) (by first | assumption | exact hL.t rfl) ?_
      refine xp_iconst (n := 1) rfl (by decide) ?_
      refine xp_iadd rfl ?_
      refine xp_pfi rfl rfl (by decide) (by decide) (by decide) (by first | assumption | exact hL.t rfl) ?_
      refine xp_iconst (n := 0) rfl (by decide) ?_
      refine xp_istore_n rfl (by decide) ?_
      refine xp_weak [(0, .ref 189), (1, .int (nI k)), (2, .int (nI i)), (3, .int (nI 0))] (xle_cons rfl (xle_cons rfl (xle_cons rfl (xle_cons rfl (xle_nil _))))) (by simp [xnd]) ?_
      exact l132b hL ho 3 0 _ (by omega)
    · exfalso; omega
  | succ m ih =>
    intro i hi
    have hb1 := hb i (by omega)
    refine xp_aload_n rfl rfl ?_
    refine xp_gfa rfl rfl (by decide) (by decide) (by first | assumption | exact hL.t rfl) (by first | assumption | exact hL.r rfl | exact hL.2.2.2.2.2) ?_
    refine xp_iload_n rfl rfl ?_
    refine xp_bald rfl (by first | assumption | exact hL.t rfl) (by omega) (by omega) ?_
    refine xp_ifeq 17 rfl (by decide) (by omega) (fun h8 => ?_) (fun h8 => ?_)
    · exfalso; omega
    · skip
      refine xp_iinc rfl rfl (by decide) (nI_inc _) ?_
      refine xp_goto 2 rfl (by decide) ?_
      refine xp_weak [(0, .ref 189), (1, .int (nI k)), (2, .int (nI (i + 1)))] (xle_cons rfl (xle_cons rfl (xle_cons rfl (xle_nil _)))) (by simp [xnd]) ?_
      exact ih (i + 1) (by omega)
theorem m132 {z : Nat} {T : Nat → Option xT} {R : Nat → Nat → Option Nat} {B : xQ} {w k o : Nat} (hL : xLay T R w) (ho : o < 24) (h0 : B.1 208 o = 0) (hb : ∀ q, q < o → B.1 208 q = 1) : xF 132 [.ref 189, .int (nI k)] (xm z T R B) (.inr (some (.int (nI o))), xm z T R (mMakeAt B o k)) := by
  refine xF_eq (xF_p (Nat.le_of_ble_eq_true rfl) ?_)
  refine xp_iconst (n := 0) rfl (by decide) ?_
  refine xp_istore_n rfl (by decide) ?_
  refine xp_weak [(0, .ref 189), (1, .int (nI k)), (2, .int (nI 0))] (xle_cons rfl (xle_cons rfl (xle_cons rfl (xle_nil _)))) (by simp [xnd]) ?_
  exact l132 hL ho h0 hb o 0 (by omega)
def mNum (s : Nat) : Nat := if s = 1 ∨ s = 2 then 1 else 0
theorem m133 {z : Nat} {T : Nat → Option xT} {R : Nat → Nat → Option Nat} {B : xQ} {x : Nat} (h1 : x < 2 ^ 32) : xF 133 [.int (nI x)] (xm z T R B) (.inr (some (.int (nI (mNum x)))), xm z T R B) := by
  refine xF_eq (xF_p (Nat.le_of_ble_eq_true rfl) ?_)
  refine xp_iload_n rfl rfl ?_
  refine xp_iconst (n := 1) rfl (by decide) ?_
  refine xp_iceq 10 rfl (by decide) (by omega) (by omega) (fun h2 => ?_) (fun h2 => ?_)
  · skip
    refine xp_iconst (n := 1) rfl (by decide) ?_
    refine xp_goto 15 rfl (by decide) ?_
    refine xp_zreturn rfl (by decide) (by decide) (by decide) (by omega) ?_
    unfold mNum
    repeat (first | rw [if_pos (by omega)] | rw [if_neg (by omega)])
  · skip
    refine xp_iload_n rfl rfl ?_
    refine xp_iconst (n := 2) rfl (by decide) ?_
    refine xp_icne 14 rfl (by decide) (by omega) (by omega) (fun h7 => ?_) (fun h7 => ?_)
    · skip
      refine xp_iconst (n := 0) rfl (by decide) ?_
      refine xp_zreturn rfl (by decide) (by decide) (by decide) (by omega) ?_
      unfold mNum
      repeat (first | rw [if_pos (by omega)] | rw [if_neg (by omega)])
    · skip
      refine xp_iconst (n := 1) rfl (by decide) ?_
      refine xp_goto 15 rfl (by decide) ?_
      refine xp_zreturn rfl (by decide) (by decide) (by decide) (by omega) ?_
      unfold mNum
      repeat (first | rw [if_pos (by omega)] | rw [if_neg (by omega)])
