-- THE EVALUATOR AND THE MACHINE, seventh part: calls
/-- the cells that a call may change: those of the memory, and new ones -/
def xA (B : Nat) (S : xS) : Nat → Prop := fun q => (∃ a, (xt S a).isSome = true ∧ q = B + a) ∨ B + xz S ≤ q
def xSg (g : Nat → Nat) (B : Nat) (U : State) : Prop := xSt g (fun q => B ≤ q) U
/-- what holds when a method begins -/
def xU (D : va_G) (dA : Nat → ClassId) (B : Nat) (g : Nat → Nat) (S : xS) (U : State) : Prop := xH D dA B g S U.heap ∧ va_K D xc_cl (xc_tys dA) U ∧ xNw U ∧ xSg g B U
/-- and when it has returned -/
def xQc (D : va_G) (dA : Nat → ClassId) (B : Nat) (g : Nat → Nat) (A : Nat → Prop) (v : Option Value) (S1 : xS) : Array Value → State → Outcome → State → Prop := fun _ st oc t => oc = .returned (v.map (xv B g)) ∧ xH D dA B g S1 t.heap ∧ (∀ a, (xt S1 a).isSome = true → A (B + a)) ∧ va_F A st t
def xrm (y : Nat) : Room := { frames := xc_lev y, cells := xc_mc y, slots := xc_ms y, locals := 40 * xc_lev y }
/-- THE CONTRACT: method y, on these values and this memory, returns v and leaves S1 -/
def xM (l : Launch) (D : va_G) (dA : Nat → ClassId) (B : Nat) (g : Nat → Nat) (y : Nat) (as : List Value) (S : xS) (v : Option Value) (S1 : xS) : Prop := Met l (xc_y y) (xc_ws y) (xrm y) (va_Pc (as.map (xv B g)) (xU D dA B g S)) (xQc D dA B g (xA B S) v S1) (xc_mc y) (xc_ms y) (xA B S)
theorem xSg.move {g : Nat → Nat} {B : Nat} {s U : State} (h : xSg g B s) (hvm : s.vm.Alike U.vm) (hh : ∀ a : Nat, a < s.heap.size → ¬ B ≤ a → U.heap[a]? = s.heap[a]?) : xSg g B U :=
  ⟨fun j hj => ((h.1 j hj).kept hh).moved hvm, fun j L hL => ((h.2 j L hL).kept hh).moved hvm⟩
theorem xU.blind {D : va_G} {dA : Nat → ClassId} {B : Nat} {g : Nat → Nat} {S : xS} (av : List Value) : FrameBlind (va_Pc av (xU D dA B g S)) := by
  intro a U gg mk h
  obtain ⟨h1, h2, h3, h4, h5⟩ := h
  exact ⟨h1, h2, va_K.moved (u := U) (U := U.calling gg mk a) (Vm.Alike.refl U.vm) h3, xNw.same (U := U.calling gg mk a) rfl h4, xSg.move (U := U.calling gg mk a) h5 (Vm.Alike.refl U.vm) (fun _ _ _ => rfl)⟩
theorem xgood {ws : List Cond} (h : ∀ w ∈ ws, w ∈ xc_tbl) : GoodIn xc_tbl ws := fun w hw => ⟨h w hw, good_of_word (xw_good (h w hw))⟩
theorem xws_in {y : Nat} (h : y < 173) : ∀ w ∈ xc_ws y, w ∈ xc_tbl := fun w hw => (List.mem_cons.mp hw).elim (fun e => by rw [e]; exact xh_code h) id
theorem xh_m {y : Nat} (h : y < 173) : (xc_y y).cls = xc_on (xc_own y) ∧ ((xc_y y).cls ≠ "java/lang/invoke/MethodHandle" ∧ (xc_y y).cls ≠ "java/lang/invoke/VarHandle") ∧ plainName (xc_y y).cls = true ∧ xc_nl y ≤ 20 ∧ xc_own y < 12 ∧ Cond.initialized (xc_y y).cls ∈ xc_tbl ∧ (xc_kind y = 0 → Cond.static (xc_y y) ∈ xc_tbl) ∧ (¬ xc_kind y = 0 → Cond.instanceMethod (xc_y y) ∈ xc_tbl) ∧ (xc_kind y = 1 → Cond.selects (xc_y y).cls (xc_y y) (xc_y y) ∈ xc_tbl) ∧ (xc_kind y = 2 → (xc_y y).name = "<init>") := by
  have h1 := List.all_eq_true.mp xf_m_ok y (List.mem_range.mpr h)
  unfold xf_m at h1
  simp only [Bool.and_eq_true, decide_eq_true_eq] at h1
  obtain ⟨⟨⟨⟨⟨⟨⟨⟨⟨⟨q1, q2⟩, q3⟩, q4⟩, q5⟩, q6⟩, q7⟩, q8⟩, q9⟩, q10⟩, q11⟩ := h1
  refine ⟨q1, ⟨q2, q3⟩, q4, q5, q6, xw_in q7 rfl, fun k => ?_, fun k => ?_, fun k => ?_, fun k => ?_⟩
  · rw [if_pos k] at q8
    exact xw_in (of_decide_eq_true q8) rfl
  · rw [if_neg k] at q8
    exact xw_in (of_decide_eq_true q8) rfl
  · rw [if_pos k] at q9
    simp only [Bool.or_eq_true, decide_eq_true_eq] at q9
    rcases q9 with q | q
    · exact xw_in q rfl
    · obtain ⟨z, hz, he⟩ := List.mem_map.mp q
      refine List.mem_filter.mpr ⟨List.mem_append_left _ ?_, rfl⟩
      refine List.mem_map.mpr ⟨z, hz, ?_⟩
      rw [he]
  · rw [if_neg (by omega), if_pos k] at q9
    exact of_decide_eq_true q9
section XC
variable {p : Program} {l : Launch} {e : Env} {R : Room} {s : State} {m : MethodId} {args : Array Value} {below : List Frame} {meth : Method} {c : Code} {Q : State → Prop} {D : va_G} {dA : Nat → ClassId} {B : Nat} {g : Nat → Nat} {A : Nat → Prop} {pc y : Nat} {lv : xL} {st : List Value} {cn qn : Nat} {S : xS} {K : xK} {r : xR} {H : Heap} {locs : List Loc} {ls : Array Slot} {rest : List Value} {a : Nat}
/-- behind a call -/
theorem x_back {A1 : Nat → Prop} {free : Addr → Prop} {mc ms : Nat} {st0 : List Value} {v : Option Value} {S1 : xS} {aa : Array Value} (hr : va_Run p l e R s m args below meth c H locs cn qn mc ms (F0 m pc ls st0) rest (xQc D dA B g A1 v S1 aa) free) (hS : va_S A s.heap H locs) (hA : ∀ q, A1 q → A q) (hf : ∀ q, free q → A q)
    (kk : ∀ (H1 : Heap) (locs1 : List Loc), xH D dA B g S1 H1 → (∀ a, (xt S1 a).isSome = true → A (B + a)) → va_S A s.heap H1 locs1 → W p l e R s m args below meth c H1 locs1 (cn + mc) (qn + ms) Q (F0 m (pc + 3) ls ((v.map (xv B g)).toList ++ rest))) : W p l e R s m args below meth c H locs cn qn Q (F0 m pc ls st0) := by
  intro T hT X
  obtain ⟨v2, st₀, t, T2, L, h0, X2, hL, e1, e2, ⟨hv, hh, hd, hz, hk⟩, go⟩ := hr T hT X
  cases hv
  rw [h0] at hz hk
  obtain ⟨t2, a1, b1⟩ := kk T2.heap (locs ++ L) (by rw [e1]; exact hh) (fun a ha => hA _ (hd a ha))
    ⟨Nat.le_trans hS.1 (by rw [e1]; exact hz), fun q h1 h2 => by rw [e1, hk q (Nat.lt_of_lt_of_le h1 hS.1) (fun z => h2 (hA q z))]; exact hS.2.1 q h1 h2, fun q hq => by
      rcases List.mem_append.mp hq with h | h
      · exact hS.2.2 q h
      · exact hf _ (hL q h)⟩ T2 rfl X2
  exact ⟨t2, go t2 a1, b1⟩
theorem xA_in (hA : ∀ q, s.heap.size ≤ q → A q) (hH : xH D dA B g S H) (hS : va_S A s.heap H locs) (hAd : ∀ a, (xt S a).isSome = true → A (B + a)) : ∀ q, xA B S q → A q := by
  intro q hq
  rcases hq with ⟨a, h1, rfl⟩ | h
  · exact hAd a h1
  · exact hA q (by have := hS.1; rw [hH.1] at this; omega)
theorem xU_at (hX : xX p R s m args meth c D dA y) (hN : xNw s) (hG : xSg g B s) (hAB : ∀ q, A q → B ≤ q) (hH : xH D dA B g S H) (hS : va_S A s.heap H locs) (av : List Value) : ∀ U : State, U.heap = H → s.WarmedH U.vm → va_Pc av (xU D dA B g S) av.toArray U := by
  obtain ⟨hx, hb, hml, hown, hts, hKK, -⟩ := hX
  intro U hU hW
  refine ⟨rfl, by rw [hU]; exact hH, va_K.moved hW.alike hKK, hN.warm hW, hG.move hW.alike (fun a h1 h2 => ?_)⟩
  rw [hU]
  exact hS.2.1 a h1 (fun h => h2 (hAB a h))
/-- how a list of values lies on the stack -/
theorem x_stk (B : Nat) (g : Nat → Nat) (st : List Value) (n : Nat) : st.map (xv B g) = (((st.take n).reverse).map (xv B g)).reverse ++ (st.drop n).map (xv B g) := by
  rw [← List.map_reverse, List.reverse_reverse, ← List.map_append, List.take_append_drop]
theorem x_cats (B : Nat) (g : Nat → Nat) (t : List Value) : ((t.map (xv B g)).map fun v => v.category) = t.map fun v => v.category := by
  rw [List.map_map]
  exact List.map_congr_left (fun v _ => xv_cat B g v)
theorem xs_cl (hX : xX p R s m args meth c D dA y) (hN : xNw s) (hG : xSg g B s) (hA : ∀ q, s.heap.size ≤ q → A q) (hAB : ∀ q, A q → B ≤ q) (hK : xG p l e R s m args below meth c Q D dA B g A (xc_nl y) K r) {call : Nat → List Value → xS → Option xR} (hcall : ∀ (y2 : Nat) (as : List Value) (S2 : xS) (v : Option Value) (S1 : xS), y2 < 173 → call y2 as S2 = some (.inr v, S1) → xM l D dA B g y2 as S2 v S1) {o : Option (Nat × Nat)}
    (run : ∀ (y2 na : Nat) (as : List Value) (v : Option Value) (S1 : xS) (ls : Array Slot) (H : Heap) (locs : List Loc) (t : List Value), o = some (y2, na) → xM l D dA B g y2 as S v S1 → as.length = na → xrcv y2 S as = true → xc_lev y2 < xc_lev y → ls.size = xc_nl y → (t.map fun v => v.category).sum ≤ 8 → cn + xc_mc y2 ≤ R.cells → qn + xc_ms y2 ≤ R.slots → xH D dA B g S H → va_S A s.heap H locs → va_Run p l e R s m args below meth c H locs cn qn (xc_mc y2) (xc_ms y2) (F0 m pc ls ((as.map (xv B g)).reverse ++ t.map (xv B g))) (t.map (xv B g)) (xQc D dA B g (xA B S) v S1 (as.map (xv B g)).toArray) (xA B S)) (hy2 : ∀ y2 na, o = some (y2, na) → y2 < 173)
    (hct : ∀ (y2 na ex t : Nat) (S1 : xS), o = some (y2, na) → xc_hnd y pc ex = some t → na ≤ st.length → xc_lev y2 < xc_lev y → cn + xc_mc y2 ≤ xc_mc y → qn + xc_ms y2 ≤ xc_ms y → ((st.drop na).map fun v => v.category).sum ≤ 8 → xrcv y2 S (st.take na).reverse = true → call y2 (st.take na).reverse S = some (.inl ex, S1) → xz S1 ≤ 1000000 → K t lv [.ref (xz S1 - 1)] (cn + xc_mc y2) (qn + xc_ms y2) S1 = some r → xW p l e R s m args below meth c Q D dA B g A (xc_nl y) pc lv st cn qn S)
    (h : xcl (fun t c q S => K (pc + 3) lv t c q S) (fun t r c q S => K t lv r c q S) (xc_hnd y pc) call o (xc_lev y) (xc_mc y) (xc_ms y) cn qn S st = some r) : xW p l e R s m args below meth c Q D dA B g A (xc_nl y) pc lv st cn qn S := by
  have hR : R.cells = xc_mc y ∧ R.slots = xc_ms y := ⟨hX.2.2.2.2.2.2.2.2.2.2.2.2.1, hX.2.2.2.2.2.2.2.2.2.2.2.2.2⟩
  unfold xcl at h
  split at h
  · next y2 na =>
    split at h
    · next c1 =>
      split at h
      · next c2 =>
        split at h
        · next c3 =>
          split at h
          · next c4 =>
            split at h
            · next c5 =>
              split at h
              · next c6 =>
                split at h
                · next v S1 hc =>
                  intro ls H locs hl hH hS hAd
                  have hlen : (st.take na).reverse.length = na := by
                    rw [List.length_reverse, List.length_take]
                    omega
                  have hrun := run y2 na (st.take na).reverse v S1 ls H locs (st.drop na) rfl (hcall y2 _ S v S1 (hy2 y2 na rfl) hc) hlen c6 c2 hl.1 c5 (by rw [hR.1]; exact c3) (by rw [hR.2]; exact c4) hH hS
                  rw [x_stk B g st na]
                  refine x_back hrun hS (xA_in hA hH hS hAd) (xA_in hA hH hS hAd) (fun H1 locs1 hH1 hAd1 hS1 => ?_)
                  have k9 := hK _ _ _ _ _ _ h ls H1 locs1 hl hH1 hS1 hAd1
                  have e9 : (v.toList ++ st.drop na).map (xv B g) = (v.map (xv B g)).toList ++ (st.drop na).map (xv B g) := by
                    rw [List.map_append]
                    cases v <;> rfl
                  rw [e9] at k9
                  exact k9
                · next ex S1 hc =>
                  split at h
                  · next t ht =>
                    split at h
                    · next c7 => exact hct y2 na ex t S1 rfl ht c1 c2 c3 c4 c5 c6 hc c7 h
                    · cases h
                  · cases h
                · cases h
              · cases h
            · cases h
          · cases h
        · cases h
      · cases h
    · cases h
  · cases h
end XC
