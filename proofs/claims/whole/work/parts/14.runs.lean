-- THE EVALUATOR AND THE MACHINE, eighth part: the three sorts of calls
theorem xh_vrt {own x y2 na : Nat} (h : xc_vrt own x = some (y2, na)) : y2 < 173 ∧ xc_kind y2 = 1 ∧ 1 ≤ na ∧ (parseMethodDescriptor (xc_y y2).desc).map (fun d => d.parameters.length) = some (na - 1) ∧ Cond.methodLink (xc_on own) x (xc_y y2) ∈ xc_tbl := by
  unfold xc_vrt at h
  obtain ⟨e, he, hv⟩ := Option.map_eq_some_iff.mp h
  have hm := xc_at_mem he
  have ho := xc_at_own (n := 13) rfl he
  have h1 := List.all_eq_true.mp (List.all_eq_true.mp xf_vrt_ok own (List.mem_range.mpr ho)) _ hm
  obtain ⟨⟨y3, na3⟩, pos⟩ := e
  cases hv
  unfold xf_vrt xf_np at h1
  simp only [Bool.and_eq_true, decide_eq_true_eq] at h1
  exact ⟨h1.1.1.1.1, h1.1.1.1.2, h1.1.1.2, h1.1.2, xw_in h1.2 rfl⟩
theorem xh_stt {own x y2 na : Nat} (h : xc_stt own x = some (y2, na)) : y2 < 173 ∧ xc_kind y2 = 0 ∧ (parseMethodDescriptor (xc_y y2).desc).map (fun d => d.parameters.length) = some na ∧ Cond.methodLink (xc_on own) x (xc_y y2) ∈ xc_tbl ∧ (xc_y y2).cls = xc_on own := by
  unfold xc_stt at h
  obtain ⟨e, he, hv⟩ := Option.map_eq_some_iff.mp h
  have hm := xc_at_mem he
  have ho := xc_at_own (n := 13) rfl he
  have h1 := List.all_eq_true.mp (List.all_eq_true.mp xf_stt_ok own (List.mem_range.mpr ho)) _ hm
  obtain ⟨⟨y3, na3⟩, pos⟩ := e
  cases hv
  unfold xf_stt xf_np at h1
  simp only [Bool.and_eq_true, decide_eq_true_eq] at h1
  exact ⟨h1.1.1.1.1, h1.1.1.1.2, h1.1.1.2, xw_in h1.1.2 rfl, h1.2⟩
theorem xh_spc {own x y2 na : Nat} (h : xc_spc own x = some (y2, na)) : y2 < 173 ∧ xc_kind y2 = 2 ∧ 1 ≤ na ∧ (parseMethodDescriptor (xc_y y2).desc).map (fun d => d.parameters.length) = some (na - 1) ∧ (Cond.methodLink (xc_on own) x (xc_y y2) ∈ xc_tbl ∨ ∃ e : Nat × (Nat × Nat) × Bool × Nat, e ∈ xc_spcs.getD own [] ∧ e.1 = x ∧ e.2.1.1 = y2 ∧ e.2.2.1 = true) := by
  unfold xc_spc at h
  obtain ⟨e, he, hv⟩ := Option.map_eq_some_iff.mp h
  have hm := xc_at_mem he
  have ho := xc_at_own (n := 13) rfl he
  have h1 := List.all_eq_true.mp (List.all_eq_true.mp xf_spc_ok own (List.mem_range.mpr ho)) _ hm
  obtain ⟨⟨y3, na3⟩, nb, pos⟩ := e
  cases hv
  unfold xf_spc xf_np at h1
  simp only [Bool.and_eq_true, decide_eq_true_eq] at h1
  refine ⟨h1.1.1.1.1, h1.1.1.1.2, h1.1.1.2, h1.1.2, ?_⟩
  cases nb with
  | true => exact Or.inr ⟨_, hm, rfl, rfl, rfl⟩
  | false => exact Or.inl (xw_in (of_decide_eq_true (by simpa using h1.2)) rfl)
theorem xrcv_ref {y : Nat} {S : xS} {as : List Value} (h : xrcv y S as = true) (hk : ¬ xc_kind y = 0) : ∃ (b : Nat) (as2 : List Value), as = .ref b :: as2 ∧ (xc_kind y = 1 → xt S b = some (.inl (xc_yc y))) := by
  unfold xrcv at h
  split at h
  · next b t => exact ⟨b, t, rfl, fun k => by simpa [k] using h⟩
  · simp [hk] at h
theorem xf_rt0 : (List.range 173).all (fun y => !(decide (xc_kind y = 2)) || decide (xc_rt y = none)) = true := by decide +kernel
section XV
variable {p : Program} {l : Launch} {e : Env} {R : Room} {s : State} {m : MethodId} {args : Array Value} {below : List Frame} {meth : Method} {c : Code} {Q : State → Prop} {D : va_G} {dA : Nat → ClassId} {B : Nat} {g : Nat → Nat} {A : Nat → Prop} {pc y : Nat} {lv : xL} {st : List Value} {cn qn : Nat} {S : xS} {K : xK} {r : xR}
theorem x_rooms (hX : xX p R s m args meth c D dA y) {y2 : Nat} (h : xc_lev y2 < xc_lev y) (hn : xc_nl y2 ≤ 20) : (xrm y2).frames + 1 ≤ R.frames ∧ 8 + (xc_nl y2 + 11) + (xrm y2).locals ≤ R.locals := by
  obtain ⟨-, -, -, -, -, -, -, -, -, -, hRf, hRl, -, -⟩ := hX
  show xc_lev y2 + 1 ≤ R.frames ∧ 8 + (xc_nl y2 + 11) + 40 * xc_lev y2 ≤ R.locals
  omega
theorem x_runV (hX : xX p R s m args meth c D dA y) (hN : xNw s) (hG : xSg g B s) (hAB : ∀ q, A q → B ≤ q) {x : Nat} (hd : decode (xc_b y) pc = .ok (.invokevirtual x, 3)) : ∀ (y2 na : Nat) (as : List Value) (v : Option Value) (S1 : xS) (ls : Array Slot) (H : Heap) (locs : List Loc) (t : List Value), xc_vrt (xc_own y) x = some (y2, na) → xM l D dA B g y2 as S v S1 → as.length = na → xrcv y2 S as = true → xc_lev y2 < xc_lev y → ls.size = xc_nl y → (t.map fun v => v.category).sum ≤ 8 → cn + xc_mc y2 ≤ R.cells → qn + xc_ms y2 ≤ R.slots → xH D dA B g S H → va_S A s.heap H locs → va_Run p l e R s m args below meth c H locs cn qn (xc_mc y2) (xc_ms y2) (F0 m pc ls ((as.map (xv B g)).reverse ++ t.map (xv B g))) (t.map (xv B g)) (xQc D dA B g (xA B S) v S1 (as.map (xv B g)).toArray) (xA B S) := by
  intro y2 na as v S1 ls H locs t ho hM hlen hrc hlev hls hcat hcc hqq hH hS
  obtain ⟨w1, w2, w3, w4, w5⟩ := xh_vrt ho
  obtain ⟨q1, q2, q3, q4, q5, q6, q7, q8, q9, q10⟩ := xh_m w1
  obtain ⟨hx, hb, hml, hown, hts, hKK, -⟩ := id hX
  obtain ⟨b, as2, rfl, hrc2⟩ := xrcv_ref hrc (by omega)
  · obtain ⟨hba, hbt⟩ := hH.2 b _ (hrc2 w2)
    obtain ⟨C, T, N, hc⟩ := xh_at q5
    obtain ⟨Y, z1, z2, -⟩ := xh_cls hc
    have hstk : (F0 m pc ls (((Value.ref b :: as2).map (xv B g)).reverse ++ t.map (xv B g))).stack = (as2.map (xv B g)).reverse ++ .ref (B + b) :: t.map (xv B g) := by
      show ((Value.ref b :: as2).map (xv B g)).reverse ++ t.map (xv B g) = _
      rw [List.map_cons, List.reverse_cons, List.append_assoc]
      simp [xv, xad_lt hba]
    have hargs : (Value.ref (B + b) :: as2.map (xv B g)).toArray = ((Value.ref b :: as2).map (xv B g)).toArray := by
      simp [xv, xad_lt hba]
    have hcls : (xc_y y2).cls = C := by rw [q1, z2]
    have hgood : GoodIn xc_tbl (wsV (xc_on (xc_own y)) x C (xc_y y2) (xc_ws y2)) := by
      refine xgood (fun w hw => ?_)
      unfold wsV at hw
      rcases List.mem_append.mp hw with h | h
      · simp only [List.mem_cons, List.not_mem_nil, or_false] at h
        rcases h with rfl | rfl | rfl | rfl
        · exact w5
        · exact q8 (by omega)
        · rw [← hcls]; exact q9 w2
        · rw [← hcls]; exact q6
      · exact xws_in w1 w h
    have hrun := va_runV (p := p) (l := l) (e := e) (R := R) (s := s) (m := m) (args := args) (below := below) (meth := meth) (c := c) (H := H) (locs := locs) (cells := cn) (slots := qn) (b := B + b) (As := as2.map (xv B g)) (rest := t.map (xv B g)) (g := F0 m pc ls (((Value.ref b :: as2).map (xv B g)).reverse ++ t.map (xv B g))) (C := C) (Ts := xc_tbl) ⟨hx, hb, hml, hown, hts⟩ hM
      (cwV (na - 1) hts hgood rfl rfl rfl ⟨hcls, q2.1, q2.2, w4⟩ (x_rooms hX hlev q4)) ⟨xU.blind _, va_recv hKK (xP1 hbt) (ci := xc_yc y2) (q0 := 0) hc rfl, ?_⟩ rfl (by rw [List.length_map]; simp only [List.length_cons] at hlen; omega) (by rw [hls]) hstk (by rw [x_cats]; show 2 * 0 + _ ≤ 8; omega) hd ⟨hcc, hqq⟩
    · rw [hargs] at hrun
      exact hrun
    · rw [hargs]
      exact xU_at hX hN hG hAB hH hS _
theorem x_runS (hX : xX p R s m args meth c D dA y) (hN : xNw s) (hG : xSg g B s) (hAB : ∀ q, A q → B ≤ q) {x : Nat} (hd : decode (xc_b y) pc = .ok (.invokestatic x, 3)) : ∀ (y2 na : Nat) (as : List Value) (v : Option Value) (S1 : xS) (ls : Array Slot) (H : Heap) (locs : List Loc) (t : List Value), xc_stt (xc_own y) x = some (y2, na) → xM l D dA B g y2 as S v S1 → as.length = na → xrcv y2 S as = true → xc_lev y2 < xc_lev y → ls.size = xc_nl y → (t.map fun v => v.category).sum ≤ 8 → cn + xc_mc y2 ≤ R.cells → qn + xc_ms y2 ≤ R.slots → xH D dA B g S H → va_S A s.heap H locs → va_Run p l e R s m args below meth c H locs cn qn (xc_mc y2) (xc_ms y2) (F0 m pc ls ((as.map (xv B g)).reverse ++ t.map (xv B g))) (t.map (xv B g)) (xQc D dA B g (xA B S) v S1 (as.map (xv B g)).toArray) (xA B S) := by
  intro y2 na as v S1 ls H locs t ho hM hlen hrc hlev hls hcat hcc hqq hH hS
  obtain ⟨w1, w2, w4, w5, w6⟩ := xh_stt ho
  obtain ⟨q1, q2, q3, q4, q5, q6, q7, q8, q9, q10⟩ := xh_m w1
  obtain ⟨hx, hb, hml, hown, hts, hKK, -⟩ := id hX
  have hgood : GoodIn xc_tbl (wsS (xc_on (xc_own y)) x (xc_y y2) (xc_ws y2)) := by
    refine xgood (fun w hw => ?_)
    unfold wsS at hw
    rcases List.mem_append.mp hw with h | h
    · simp only [List.mem_cons, List.not_mem_nil, or_false] at h
      rcases h with rfl | rfl | rfl
      · exact w5
      · exact q7 w2
      · rw [← w6]; exact q6
    · exact xws_in w1 w h
  exact va_runS (As := as.map (xv B g)) (rest := t.map (xv B g)) (Ts := xc_tbl) ⟨hx, hb, hml, hown, hts⟩ hM
    (cwS na hts hgood rfl rfl rfl ⟨w6, q2.1, q2.2, w4⟩ (x_rooms hX hlev q4)) ⟨xU.blind _, xU_at hX hN hG hAB hH hS _⟩ rfl (by rw [List.length_map]; exact hlen) (by rw [hls]) rfl (by rw [x_cats]; show 2 * 0 + _ ≤ 8; omega) hd ⟨hcc, hqq⟩
theorem x_runI (hX : xX p R s m args meth c D dA y) (hN : xNw s) (hG : xSg g B s) (hAB : ∀ q, A q → B ≤ q) {x : Nat} (hd : decode (xc_b y) pc = .ok (.invokespecial x, 3)) : ∀ (y2 na : Nat) (as : List Value) (v : Option Value) (S1 : xS) (ls : Array Slot) (H : Heap) (locs : List Loc) (t : List Value), xc_spc (xc_own y) x = some (y2, na) → xM l D dA B g y2 as S v S1 → as.length = na → xrcv y2 S as = true → xc_lev y2 < xc_lev y → ls.size = xc_nl y → (t.map fun v => v.category).sum ≤ 8 → cn + xc_mc y2 ≤ R.cells → qn + xc_ms y2 ≤ R.slots → xH D dA B g S H → va_S A s.heap H locs → va_Run p l e R s m args below meth c H locs cn qn (xc_mc y2) (xc_ms y2) (F0 m pc ls ((as.map (xv B g)).reverse ++ t.map (xv B g))) (t.map (xv B g)) (xQc D dA B g (xA B S) v S1 (as.map (xv B g)).toArray) (xA B S) := by
  intro y2 na as v S1 ls H locs t ho hM hlen hrc hlev hls hcat hcc hqq hH hS
  obtain ⟨w1, w2, w3, w4, w5⟩ := xh_spc ho
  obtain ⟨q1, q2, q3, q4, q5, q6, q7, q8, q9, q10⟩ := xh_m w1
  obtain ⟨hx, hb, hml, hown, hts, hKK, -⟩ := id hX
  obtain ⟨b, as2, rfl, -⟩ := xrcv_ref hrc (by omega)
  · have hrt : xc_rt y2 = none := by
      have h9 := List.all_eq_true.mp xf_rt0 y2 (List.mem_range.mpr w1)
      simpa [w2] using h9
    have hstk : (F0 m pc ls (((Value.ref b :: as2).map (xv B g)).reverse ++ t.map (xv B g))).stack = (as2.map (xv B g)).reverse ++ .ref (xad B g b) :: t.map (xv B g) := by
      show ((Value.ref b :: as2).map (xv B g)).reverse ++ t.map (xv B g) = _
      rw [List.map_cons, List.reverse_cons, List.append_assoc]
      rfl
    have hw : xc_ws y2 = Cond.code (xc_y y2) (xc_b y2) (xc_nl y2) none :: xc_tbl := by unfold xc_ws; rw [hrt]
    have hpre : PreS s H (va_Pc ((Value.ref b :: as2).map (xv B g)) (xU D dA B g S)) (.ref (xad B g b) :: as2.map (xv B g)) := ⟨xU.blind _, xU_at hX hN hG hAB hH hS _⟩
    rcases w5 with w5 | ⟨e0, w5, rfl, rfl, w6⟩
    · exact va_runI (b := xad B g b) (As := as2.map (xv B g)) (rest := t.map (xv B g)) (Ts := xc_tbl) ⟨hx, hb, hml, hown, hts⟩ hM
        (cwI (na - 1) hts (xgood (xws_in w1)) hw rfl rfl (hts _ q6) (hts _ w5) (hts _ (q8 (by omega))) (q10 w2) ⟨q2.1, q2.2, w4⟩ (x_rooms hX hlev q4)) hpre rfl (by rw [List.length_map]; simp only [List.length_cons] at hlen; omega) (by rw [hls]) hstk (by rw [x_cats]; show 2 * 0 + _ ≤ 8; omega) hd ⟨hcc, hqq⟩
    · exact va_runIN (b := xad B g b) (As := as2.map (xv B g)) (rest := t.map (xv B g)) (Ts := xc_tbl) (host := "SnapForge") ⟨hx, hb, hml, hown, hts⟩ hM
        ⟨va_cnB (na - 1) hts (xgood (xws_in w1)) hw rfl rfl (hN.2.2.2 _ e0 w5 w6) (hts _ q6) ⟨q2.1, q2.2, w4⟩ (x_rooms hX hlev q4), q10 w2, hts _ (q8 (by omega))⟩ hpre rfl (by rw [List.length_map]; simp only [List.length_cons] at hlen; omega) (by rw [hls]) hstk (by rw [x_cats]; show 2 * 0 + _ ≤ 8; omega) hd ⟨hcc, hqq⟩
end XV
