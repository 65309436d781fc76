-- THE EVALUATOR AND THE MACHINE, ninth part: every instruction, every method
theorem xh_dec1 {y pc n : Nat} {i : Instr} (h : xc_code y pc = some i) (hn : xlen i = n) (h0 : n ≠ 0) : decode (xc_b y) pc = .ok (i, n) := by
  obtain ⟨l, hd, hl⟩ := xh_dec h
  rcases hl with q | q
  · exact absurd (hn.symm.trans q) h0
  · rw [hd, q, hn]
section XT
variable {p : Program} {l : Launch} {e : Env} {R : Room} {s : State} {m : MethodId} {args : Array Value} {below : List Frame} {meth : Method} {c : Code} {D : va_G} {dA : Nat → ClassId} {B : Nat} {g : Nat → Nat} {A : Nat → Prop} {pc y : Nat} {lv : xL} {st : List Value} {cn qn : Nat} {S : xS} {K : xK} {r : xR}
/-- the ends: the method returns -/
theorem xs_ret {S0 : xS} {v : Option Value} {S1 : xS} (hX : xX p R s m args meth c D dA y) (hAd : ∀ a, (xt S1 a).isSome = true → xA B S0 (B + a)) {H : Heap} {locs : List Loc} (hH : xH D dA B g S1 H) (hS : va_S (xA B S0) s.heap H locs) : ∀ t : State, t.heap = H → s.WarmedH t.vm → xQc D dA B g (xA B S0) v S1 args s (.returned (v.map (xv B g))) t := fun t ht _ => ⟨rfl, by rw [ht]; exact hH, hAd, hS.F ht⟩
theorem xh_ret {y : Nat} (h : y < 187) : (xc_ret y = 0 → xc_rt y = none) ∧ (xc_ret y = 1 → xc_rt y = some .int) ∧ (xc_ret y = 2 → xc_rt y = some .boolean) ∧ (xc_ret y = 3 → xc_rt y = some .long) ∧ (xc_ret y = 4 → ∃ n, xc_rt y = some (.object n)) := by
  have h1 := List.all_eq_true.mp xf_r_ok y (List.mem_range.mpr h)
  unfold xf_r at h1
  simp only [Bool.and_eq_true, decide_eq_true_eq] at h1
  have h2 := h1.1
  refine ⟨fun k => ?_, fun k => ?_, fun k => ?_, fun k => ?_, fun k => ?_⟩
  · simpa [k] using h2
  · simpa [k] using h2
  · simpa [k] using h2
  · simpa [k] using h2
  · simp only [k, Nat.reduceEqDiff, if_false, if_true] at h2
    split at h2
    · next n hn => exact ⟨n, hn⟩
    · cases h2
theorem xs_ends {S0 : xS} {v : Option Value} {S1 : xS} (hX : xX p R s m args meth c D dA y) (hc : xc_code y pc = some .ireturn) (h1 : cn ≤ xc_mc y) (h2 : qn ≤ xc_ms y) (h : xret y S st = some (.inr v, S1)) : xW p l e R s m args below meth c (MQ below (xQc D dA B g (xA B S0) v S1) args s (xc_mc y) (xc_ms y) (xA B S0)) D dA B g (xA B S0) (xc_nl y) pc lv st cn qn S := by
  obtain ⟨hx, hb, hml, hown, hts, hKK, hr, hlk, hini, hy, -⟩ := id hX
  unfold xret at h
  split at h
  · next w =>
    split at h
    · next h3 =>
      cases h
      exact fun ls H locs hl hH hS hAd => W.widen h1 h2 (W.iret hx hb (hr.trans ((xh_ret hy).2.1 h3)) (xs_ret hX hAd hH hS) hS.2.2 (xh_dec1 hc rfl (by decide)) hlk)
    · split at h
      · next h3 =>
        split at h
        · next h4 =>
          cases h
          exact fun ls H locs hl hH hS hAd => W.widen h1 h2 (W.zret hx hb (hr.trans ((xh_ret hy).2.2.1 h3)) (by rcases h4 with rfl | rfl <;> rfl) (xs_ret hX hAd hH hS) hS.2.2 (xh_dec1 hc rfl (by decide)) hlk)
        · cases h
      · cases h
  · cases h
theorem xs_endl {S0 : xS} {v : Option Value} {S1 : xS} (hX : xX p R s m args meth c D dA y) (hc : xc_code y pc = some .lreturn) (h1 : cn ≤ xc_mc y) (h2 : qn ≤ xc_ms y) (h : xrel y S st = some (.inr v, S1)) : xW p l e R s m args below meth c (MQ below (xQc D dA B g (xA B S0) v S1) args s (xc_mc y) (xc_ms y) (xA B S0)) D dA B g (xA B S0) (xc_nl y) pc lv st cn qn S := by
  obtain ⟨hx, hb, hml, hown, hts, hKK, hr, hlk, hini, hy, -⟩ := id hX
  unfold xrel at h
  split at h
  · next w =>
    split at h
    · next h3 =>
      cases h
      exact fun ls H locs hl hH hS hAd => W.widen h1 h2 (W.lret hx hb (hr.trans ((xh_ret hy).2.2.2.1 h3)) (xs_ret hX hAd hH hS) hS.2.2 (xh_dec1 hc rfl (by decide)) hlk)
    · cases h
  · cases h
theorem xs_enda {S0 : xS} {v : Option Value} {S1 : xS} (hX : xX p R s m args meth c D dA y) (hc : xc_code y pc = some .areturn) (h1 : cn ≤ xc_mc y) (h2 : qn ≤ xc_ms y) (h : xrea y S st = some (.inr v, S1)) : xW p l e R s m args below meth c (MQ below (xQc D dA B g (xA B S0) v S1) args s (xc_mc y) (xc_ms y) (xA B S0)) D dA B g (xA B S0) (xc_nl y) pc lv st cn qn S := by
  obtain ⟨hx, hb, hml, hown, hts, hKK, hr, hlk, hini, hy, -⟩ := id hX
  unfold xrea at h
  split at h
  · next w =>
    split at h
    · next h3 =>
      cases h
      obtain ⟨n, hn⟩ := (xh_ret hy).2.2.2.2 h3
      exact fun ls H locs hl hH hS hAd => W.widen h1 h2 (W.aret hx hb (hr.trans hn) (Or.inl ⟨n, rfl⟩) (Or.inr ⟨_, rfl⟩) (xs_ret (v := some (.ref w)) hX hAd hH hS) hS.2.2 (xh_dec1 hc rfl (by decide)) hlk)
    · cases h
  · cases h
theorem xs_endv {S0 : xS} {v : Option Value} {S1 : xS} (hX : xX p R s m args meth c D dA y) (hc : xc_code y pc = some .return_) (h1 : cn ≤ xc_mc y) (h2 : qn ≤ xc_ms y) (h : xrev y S st = some (.inr v, S1)) : xW p l e R s m args below meth c (MQ below (xQc D dA B g (xA B S0) v S1) args s (xc_mc y) (xc_ms y) (xA B S0)) D dA B g (xA B S0) (xc_nl y) pc lv st cn qn S := by
  obtain ⟨hx, hb, hml, hown, hts, hKK, hr, hlk, hini, hy, -⟩ := id hX
  unfold xrev at h
  split at h
  · split at h
    · next h3 =>
      cases h
      exact fun ls H locs hl hH hS hAd => W.widen h1 h2 (W.vret hx hb (hr.trans ((xh_ret hy).1 h3)) (xs_ret hX hAd hH hS) hS.2.2 (xh_dec1 hc rfl (by decide)) hlk)
    · cases h
  · cases h
theorem xh_spc0 {own x y2 na : Nat} (h : xc_spc own x = some (y2, na)) : y2 < 173 := (xh_spc h).1
variable {Q : State → Prop}
set_option maxHeartbeats 4000000 in
theorem xstep_ok (hX : xX p R s m args meth c D dA y) (hN : xNw s) (hG : xSg g B s) (hA : ∀ q, s.heap.size ≤ q → A q) (hAB : ∀ q, A q → B ≤ q) (hK : xG p l e R s m args below meth c Q D dA B g A (xc_nl y) K r) {call : Nat → List Value → xS → Option xR} (hcall : ∀ (y2 : Nat) (as : List Value) (S2 : xS) (v : Option Value) (S1 : xS), y2 < 173 → call y2 as S2 = some (.inr v, S1) → xM l D dA B g y2 as S2 v S1)
    (hthr : ∀ (x : Nat) (o : Option (Nat × Nat)), xc_code y pc = some (.new x) → xc_exc (xc_own y) x = o → (st.map fun v => v.category).sum ≤ 8 → xthr o y pc (xc_mc y) (xc_ms y) cn qn S = some r → xW p l e R s m args below meth c Q D dA B g A (xc_nl y) pc lv st cn qn S)
    (h1r : xc_code y pc = some .ireturn → cn ≤ xc_mc y → qn ≤ xc_ms y → xret y S st = some r → xW p l e R s m args below meth c Q D dA B g A (xc_nl y) pc lv st cn qn S)
    (h2r : xc_code y pc = some .lreturn → cn ≤ xc_mc y → qn ≤ xc_ms y → xrel y S st = some r → xW p l e R s m args below meth c Q D dA B g A (xc_nl y) pc lv st cn qn S)
    (h3r : xc_code y pc = some .areturn → cn ≤ xc_mc y → qn ≤ xc_ms y → xrea y S st = some r → xW p l e R s m args below meth c Q D dA B g A (xc_nl y) pc lv st cn qn S)
    (h4r : xc_code y pc = some .return_ → cn ≤ xc_mc y → qn ≤ xc_ms y → xrev y S st = some r → xW p l e R s m args below meth c Q D dA B g A (xc_nl y) pc lv st cn qn S)
    (hct : ∀ (o : Option (Nat × Nat)) (x y2 na ex t : Nat) (S1 : xS), (xc_code y pc = some (.invokevirtual x) ∧ o = xc_vrt (xc_own y) x ∨ (∃ x, xc_code y pc = some (.invokespecial x)) ∨ ∃ x, xc_code y pc = some (.invokestatic x)) → o = some (y2, na) → xc_hnd y pc ex = some t → na ≤ st.length → xc_lev y2 < xc_lev y → cn + xc_mc y2 ≤ xc_mc y → qn + xc_ms y2 ≤ xc_ms y → ((st.drop na).map fun v => v.category).sum ≤ 8 → xrcv y2 S (st.take na).reverse = true → call y2 (st.take na).reverse S = some (.inl ex, S1) → xz S1 ≤ 1000000 → K t lv [.ref (xz S1 - 1)] (cn + xc_mc y2) (qn + xc_ms y2) S1 = some r → xW p l e R s m args below meth c Q D dA B g A (xc_nl y) pc lv st cn qn S)
    {i : Instr} (hc : xc_code y pc = some i) (h : xstep K call y pc i lv st cn qn S = some r) : xW p l e R s m args below meth c Q D dA B g A (xc_nl y) pc lv st cn qn S := by
  obtain ⟨hx, hb, hml, hown, hts, hKK, hr, hlk, hini, hy, -⟩ := id hX
  have hT : xSt g A s := ⟨fun j hj => (hG.1 j hj).narrow hAB, fun j L hL => (hG.2 j L hL).narrow hAB⟩
  unfold xstep at h
  split at h
  · exact xs_push hK rfl (fun ls H locs t k => lv_iconst hx hb (xh_dec1 hc rfl (by decide)) rfl k) h
  · exact xs_push hK rfl (fun ls H locs t k => lv_bipush hx hb (xh_dec1 hc rfl (by decide)) rfl k) h
  · exact xs_push hK rfl (fun ls H locs t k => lv_sipush hx hb (xh_dec1 hc rfl (by decide)) rfl k) h
  · exact xs_push hK rfl (fun ls H locs t k => lv_lconst hx hb (xh_dec1 hc rfl (by decide)) rfl k) h
  · exact xs_push hK rfl (fun ls H locs t k => lv_null hx hb (xh_dec1 hc rfl (by decide)) k) h
  · cases h
  · exact xs_ldc2 hX hK (xh_dec1 hc rfl (by decide)) h
  · exact xs_ldI hK (fun ls H locs x t q k => lv_iload_n hx hb (xh_dec1 hc rfl (by decide)) rfl q k) h
  · exact xs_ldI hK (fun ls H locs x t q k => lv_iload hx hb (xh_dec1 hc rfl (by decide)) q k) h
  · exact xs_ldL hK (fun ls H locs x t q k => lv_lload_n hx hb (xh_dec1 hc rfl (by decide)) rfl q k) h
  · exact xs_ldL hK (fun ls H locs x t q k => lv_lload hx hb (xh_dec1 hc rfl (by decide)) q k) h
  · exact xs_ldA hK (fun ls H locs x t q k => lv_aload_n hx hb (xh_dec1 hc rfl (by decide)) rfl q k) (fun ls H locs t q k => lv_aload_nN hx hb (xh_dec1 hc rfl (by decide)) rfl q k) h
  · exact xs_ldA hK (fun ls H locs x t q k => lv_aload hx hb (xh_dec1 hc rfl (by decide)) q k) (fun ls H locs t q k => lv_aloadN hx hb (xh_dec1 hc rfl (by decide)) q k) h
  · exact xs_stI hK (fun ls H locs x t lv1 lv2 a b d k => lv_istore_n hx hb (xh_dec1 hc rfl (by decide)) rfl a b d k) h
  · exact xs_stI hK (fun ls H locs x t lv1 lv2 a b d k => lv_istore hx hb (xh_dec1 hc rfl (by decide)) a b d k) h
  · exact xs_stL hK (fun ls H locs x t lv1 lv2 a b d k => lv_lstore_n hx hb (xh_dec1 hc rfl (by decide)) rfl a b d k) h
  · exact xs_stL hK (fun ls H locs x t lv1 lv2 a b d k => lv_lstore hx hb (xh_dec1 hc rfl (by decide)) a b d k) h
  · exact xs_stA hK (fun ls H locs x t lv1 lv2 a b d k => lv_astore_n hx hb (xh_dec1 hc rfl (by decide)) rfl a b d k) (fun ls H locs t lv1 lv2 a b d k => lv_astore_nN hx hb (xh_dec1 hc rfl (by decide)) rfl a b d k) h
  · exact xs_stA hK (fun ls H locs x t lv1 lv2 a b d k => lv_astore hx hb (xh_dec1 hc rfl (by decide)) a b d k) (fun ls H locs t lv1 lv2 a b d k => lv_astoreN hx hb (xh_dec1 hc rfl (by decide)) a b d k) h
  · exact xs_inc hK (fun ls H locs x t k lv1 lv2 a b d f kk => lv_iinc hx hb (xh_dec1 hc rfl (by decide)) a b rfl d f kk) h
  · exact xs_bI hK (fun ls H locs a b t k => lv_iadd hx hb (xh_dec1 hc rfl (by decide)) k) h
  · exact xs_bI hK (fun ls H locs a b t k => lv_isub hx hb (xh_dec1 hc rfl (by decide)) k) h
  · exact xs_bI hK (fun ls H locs a b t k => lv_imul hx hb (xh_dec1 hc rfl (by decide)) k) h
  · exact xs_bI hK (fun ls H locs a b t k => lv_iand hx hb (xh_dec1 hc rfl (by decide)) k) h
  · exact xs_bI hK (fun ls H locs a b t k => lv_ior hx hb (xh_dec1 hc rfl (by decide)) k) h
  · exact xs_bI hK (fun ls H locs a b t k => lv_ixor hx hb (xh_dec1 hc rfl (by decide)) k) h
  · exact xs_bI hK (fun ls H locs a b t k => lv_ishl hx hb (xh_dec1 hc rfl (by decide)) k) h
  · exact xs_bI hK (fun ls H locs a b t k => lv_ishr hx hb (xh_dec1 hc rfl (by decide)) k) h
  · exact xs_bI hK (fun ls H locs a b t k => lv_iushr hx hb (xh_dec1 hc rfl (by decide)) rfl k) h
  · exact xs_bD hK (fun ls H locs a b t q k => lv_idiv hx hb (xh_dec1 hc rfl (by decide)) q k) h
  · exact xs_bD hK (fun ls H locs a b t q k => lv_irem hx hb (xh_dec1 hc rfl (by decide)) q k) h
  · exact xs_uI hK (fun _ => rfl) (fun ls H locs a t k => lv_ineg hx hb (xh_dec1 hc rfl (by decide)) k) h
  · exact xs_bL hK (fun ls H locs a b t k => lv_ladd hx hb (xh_dec1 hc rfl (by decide)) k) h
  · exact xs_bL hK (fun ls H locs a b t k => lv_lsub hx hb (xh_dec1 hc rfl (by decide)) k) h
  · exact xs_bL hK (fun ls H locs a b t k => lv_lmul hx hb (xh_dec1 hc rfl (by decide)) k) h
  · exact xs_bL hK (fun ls H locs a b t k => lv_land hx hb (xh_dec1 hc rfl (by decide)) k) h
  · exact xs_bL hK (fun ls H locs a b t k => lv_lor hx hb (xh_dec1 hc rfl (by decide)) k) h
  · exact xs_bL hK (fun ls H locs a b t k => lv_lxor hx hb (xh_dec1 hc rfl (by decide)) k) h
  · exact xs_bE hK (fun ls H locs a b t q k => lv_ldiv hx hb (xh_dec1 hc rfl (by decide)) q k) h
  · exact xs_bE hK (fun ls H locs a b t q k => lv_lrem hx hb (xh_dec1 hc rfl (by decide)) q k) h
  · exact xs_uL hK (fun _ => rfl) (fun ls H locs a t k => lv_lneg hx hb (xh_dec1 hc rfl (by decide)) k) h
  · exact xs_bS hK (fun ls H locs a b t k => lv_lshl hx hb (xh_dec1 hc rfl (by decide)) rfl k) h
  · exact xs_bS hK (fun ls H locs a b t k => lv_lshr hx hb (xh_dec1 hc rfl (by decide)) rfl k) h
  · exact xs_bS hK (fun ls H locs a b t k => lv_lushr hx hb (xh_dec1 hc rfl (by decide)) rfl k) h
  · exact xs_bC hK (fun ls H locs a b t k => W.lcmp hx hb (xh_dec1 hc rfl (by decide)) k) h
  · exact xs_uI hK (fun _ => rfl) (fun ls H locs a t k => lv_i2l hx hb (xh_dec1 hc rfl (by decide)) rfl k) h
  · exact xs_uL hK (fun _ => rfl) (fun ls H locs a t k => lv_l2i hx hb (xh_dec1 hc rfl (by decide)) rfl k) h
  · exact xs_dup hK (fun ls H locs a t q k => lv_dup hx hb (xh_dec1 hc rfl (by decide)) q k) h
  · exact xs_dupx1 hK (fun ls H locs a b t q1 q2 k => lv_dup_x1 hx hb (xh_dec1 hc rfl (by decide)) q1 q2 k) h
  · exact xs_dupx2 hK (fun ls H locs a b d t q1 q2 q3 k => lv_dup_x2 hx hb (xh_dec1 hc rfl (by decide)) q1 q2 q3 k) h
  · exact xs_dup2 hK (fun ls H locs a b t q1 q2 k => lv_dup2_11 hx hb (xh_dec1 hc rfl (by decide)) q1 q2 k) h
  · exact xs_pop hK (fun ls H locs a t q k => lv_pop hx hb (xh_dec1 hc rfl (by decide)) q k) h
  · exact xs_pop2 hK (fun ls H locs a t q k => lv_pop2_2 hx hb (xh_dec1 hc rfl (by decide)) q k) h
  · next d off =>
    cases d with
    | eq => exact xs_if hK (fun ls H locs a t tgt q kt kf => lv_if_eq hx hb (xh_dec1 hc rfl (by decide)) q (fun z => kt (by simp [xcb, z])) (fun z => kf (by simp [xcb, z]))) h
    | ne => exact xs_if hK (fun ls H locs a t tgt q kt kf => lv_if_ne hx hb (xh_dec1 hc rfl (by decide)) q (fun z => kt (by simp [xcb, z])) (fun z => kf (by simp [xcb, z]))) h
    | lt => exact xs_if hK (fun ls H locs a t tgt q kt kf => lv_if_lt hx hb (xh_dec1 hc rfl (by decide)) q (fun z => kt (by simp only [xcb, decide_eq_true_eq]; exact z)) (fun z => kf (by simp only [xcb, decide_eq_true_eq]; exact z))) h
    | ge => exact xs_if hK (fun ls H locs a t tgt q kt kf => lv_if_ge hx hb (xh_dec1 hc rfl (by decide)) q (fun z => kt (by simp only [xcb, decide_eq_true_eq]; exact z)) (fun z => kf (by simp only [xcb, decide_eq_true_eq]; exact z))) h
    | gt => exact xs_if hK (fun ls H locs a t tgt q kt kf => lv_if_gt hx hb (xh_dec1 hc rfl (by decide)) q (fun z => kt (by simp only [xcb, decide_eq_true_eq]; exact z)) (fun z => kf (by simp only [xcb, decide_eq_true_eq]; exact z))) h
    | le => exact xs_if hK (fun ls H locs a t tgt q kt kf => lv_if_le hx hb (xh_dec1 hc rfl (by decide)) q (fun z => kt (by simp only [xcb, decide_eq_true_eq]; exact z)) (fun z => kf (by simp only [xcb, decide_eq_true_eq]; exact z))) h
  · next d off =>
    cases d with
    | eq => exact xs_ic hK (fun ls H locs a b t tgt q kt kf => lv_icmp_eq hx hb (xh_dec1 hc rfl (by decide)) q (fun z => kt (by simp [xcb, z])) (fun z => kf (by simp [xcb, z]))) h
    | ne => exact xs_ic hK (fun ls H locs a b t tgt q kt kf => lv_icmp_ne hx hb (xh_dec1 hc rfl (by decide)) q (fun z => kt (by simp [xcb, z])) (fun z => kf (by simp [xcb, z]))) h
    | lt => exact xs_ic hK (fun ls H locs a b t tgt q kt kf => lv_icmp_lt hx hb (xh_dec1 hc rfl (by decide)) q (fun z => kt (by simp only [xcb, decide_eq_true_eq]; exact z)) (fun z => kf (by simp only [xcb, decide_eq_true_eq]; exact z))) h
    | ge => exact xs_ic hK (fun ls H locs a b t tgt q kt kf => lv_icmp_ge hx hb (xh_dec1 hc rfl (by decide)) q (fun z => kt (by simp only [xcb, decide_eq_true_eq]; exact z)) (fun z => kf (by simp only [xcb, decide_eq_true_eq]; exact z))) h
    | gt => exact xs_ic hK (fun ls H locs a b t tgt q kt kf => lv_icmp_gt hx hb (xh_dec1 hc rfl (by decide)) q (fun z => kt (by simp only [xcb, decide_eq_true_eq]; exact z)) (fun z => kf (by simp only [xcb, decide_eq_true_eq]; exact z))) h
    | le => exact xs_ic hK (fun ls H locs a b t tgt q kt kf => lv_icmp_le hx hb (xh_dec1 hc rfl (by decide)) q (fun z => kt (by simp only [xcb, decide_eq_true_eq]; exact z)) (fun z => kf (by simp only [xcb, decide_eq_true_eq]; exact z))) h
  · exact xs_nul hK (fun ls H locs t tgt q k => lv_ifnullN hx hb (xh_dec1 hc rfl (by decide)) q k) (fun ls H locs x t k => lv_ifnull hx hb (xh_dec1 hc rfl (by decide)) k) h
  · exact xs_nnl hK (fun ls H locs t k => lv_ifnonnullN hx hb (xh_dec1 hc rfl (by decide)) k) (fun ls H locs x t tgt q k => lv_ifnonnull hx hb (xh_dec1 hc rfl (by decide)) q k) h
  · exact xs_goto hK (fun ls H locs t tgt q k => lv_goto hx hb (xh_dec1 hc rfl (by decide)) q k) h
  · obtain ⟨len, hd, -⟩ := xh_dec hc
    exact xs_tsw hK (fun ls H locs x t tgt q1 q2 k => lv_tableOut hx hb hd q1 q2 k) (fun ls H locs x t tgt off q1 q2 q3 q4 k => lv_tableIn hx hb hd q1 q2 q3 q4 k) h
  · obtain ⟨len, hd, -⟩ := xh_dec hc
    exact xs_lsw hK (fun ls H locs x t tgt q1 q2 k => lv_lookup hx hb hd q1 rfl q2 k) h
  · exact xs_gf hX hK (xh_dec1 hc rfl (by decide)) h
  · exact xs_pf hX hK (xh_dec1 hc rfl (by decide)) h
  · exact xs_gs hX hN hT hK (xh_dec1 hc rfl (by decide)) h
  · exact xs_iald hX hT hK (xh_dec1 hc rfl (by decide)) h
  · exact xs_bald hX hK (xh_dec1 hc rfl (by decide)) h
  · exact xs_bast hX hK (xh_dec1 hc rfl (by decide)) h
  · exact xs_lald hX hK (xh_dec1 hc rfl (by decide)) h
  · exact xs_aald hX hK (xh_dec1 hc rfl (by decide)) h
  · exact xs_iast hX hK (xh_dec1 hc rfl (by decide)) h
  · exact xs_last hX hK (xh_dec1 hc rfl (by decide)) h
  · exact xs_aast hX hK (xh_dec1 hc rfl (by decide)) h
  · split at h
    · exact xs_newo hX hA hK (xh_dec1 hc rfl (by decide)) h
    · split at h
      · next hcs => exact hthr _ _ hc rfl hcs h
      · cases h
  · exact xs_newn hX hA hK (j := 0) (ty := .int) rfl xw_ai rfl id (by decide) (fun n => rfl) (xh_dec1 hc rfl (by decide)) h
  · exact xs_newn hX hA hK (j := 1) (ty := .long) rfl xw_al rfl id (by decide) (fun n => rfl) (xh_dec1 hc rfl (by decide)) h
  · exact xs_newn hX hA hK (j := 2) (ty := .boolean) rfl xw_az rfl id (by decide) (fun n => rfl) (xh_dec1 hc rfl (by decide)) h
  · exact xs_newq hX hN hA hK (xh_dec1 hc rfl (by decide)) h
  · exact xs_cl hX hN hG hA hAB hK hcall (x_runV hX hN hG hAB (xh_dec1 hc rfl (by decide))) (fun y2 na ho => (xh_vrt ho).1) (fun y2 na ex t S1 => hct _ _ y2 na ex t S1 (Or.inl ⟨hc, rfl⟩)) h
  · split at h
    · next ho => exact xs_obj hX hK ho (xh_dec1 hc rfl (by decide)) h
    · exact xs_cl hX hN hG hA hAB hK hcall (x_runI hX hN hG hAB (xh_dec1 hc rfl (by decide))) (fun y2 na ho => (xh_spc ho).1) (fun y2 na ex t S1 => hct _ 0 y2 na ex t S1 (Or.inr (Or.inl ⟨_, hc⟩))) h
  · split at h
    · next ho =>
      split at h
      · next c1 =>
        split at h
        · next c2 => exact xs_min hX hK ho c1 c2 (xh_dec1 hc rfl (by decide)) h
        · cases h
      · cases h
    · exact xs_cl hX hN hG hA hAB hK hcall (x_runS hX hN hG hAB (xh_dec1 hc rfl (by decide))) (fun y2 na ho => (xh_stt ho).1) (fun y2 na ex t S1 => hct _ 0 y2 na ex t S1 (Or.inr (Or.inr ⟨_, hc⟩))) h
  · split at h
    · next c1 =>
      split at h
      · next c2 => exact h1r hc c1 c2 h
      · cases h
    · cases h
  · split at h
    · next c1 =>
      split at h
      · next c2 => exact h2r hc c1 c2 h
      · cases h
    · cases h
  · split at h
    · next c1 =>
      split at h
      · next c2 => exact h3r hc c1 c2 h
      · cases h
    · cases h
  · split at h
    · next c1 =>
      split at h
      · next c2 => exact h4r hc c1 c2 h
      · cases h
    · cases h
  · cases h
end XT
