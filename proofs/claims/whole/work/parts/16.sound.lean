-- THE EVALUATOR AND THE MACHINE, last part: what the evaluator comes to, the method comes to
theorem x_sl (B : Nat) (g : Nat → Nat) (as : List Value) : (lg_sl (as.map (xv B g))).length = (lg_sl as).length := by
  induction as with
  | nil => rfl
  | cons v t ih =>
    have e : ∀ (v : Value) (t : List Value), lg_sl (v :: t) = (if v.category = 2 then [Slot.val v, Slot.second] else [Slot.val v]) ++ lg_sl t := fun v t => by simp [lg_sl]
    rw [List.map_cons, e, e, List.length_append, List.length_append, ih, xv_cat]
    by_cases h : v.category = 2 <;> simp [h]
theorem x_args (B : Nat) (g : Nat → Nat) (as : List Value) : ∀ i : Nat, lv_args i (as.map (xv B g)) = (lv_args i as).map (fun q => (q.1, xv B g q.2)) := by
  induction as with
  | nil => intro i; rfl
  | cons v t ih =>
    intro i
    simp only [List.map_cons, lv_args, xv_cat, ih]
theorem xsound (l : Launch) (D : va_G) (dA : Nat → ClassId) (B : Nat) (g : Nat → Nat) : ∀ (n y : Nat) (as : List Value) (S : xS) (v : Option Value) (S1 : xS), y < 173 → xmeth n y as S = some (.inr v, S1) → xM l D dA B g y as S v S1 := by
  intro n
  induction n using Nat.strongRecOn with
  | _ n ih =>
    intro y as S v S1 hy h
    unfold xmeth at h
    split at h
    · next hfit =>
      obtain ⟨q1, q2, q3, q4, q5, q6, q7, q8, q9, q10⟩ := xh_m hy
      refine Met.ofW (cc := xc_b y) (maxL := xc_nl y) (ret := xc_rt y) q3 rfl ?_
      intro p e s m args below meth c s₁ Bd hml hv
      obtain ⟨rfl, hH, hKK, hN, hG⟩ := hv
      have hx := Bd.exec
      have hts0 := atoms_spec (ws := xc_ws y) Bd.pre
      have hX : xX p (headSpec (xc_ws y) (xrm y)).room s m (as.map (xv B g)).toArray meth c D dA y := by
        refine ⟨Bd.exec, Bd.bytes, hml, ?_, fun w hw => hts0 w (List.mem_cons_of_mem _ hw), hKK, Bd.returns, Bd.notSynchronized, fun hk => ?_, by omega, Nat.le_refl _, Nat.le_refl _, rfl, rfl⟩
        · rw [← q1]
          exact findClass_of_methodNamed Bd.named
        · rw [(name_of_methodNamed Bd.named Bd.method).1]
          exact q10 hk
      have hA : ∀ q, s.heap.size ≤ q → xA B S q := fun q hq => Or.inr (by rw [← hH.1]; exact hq)
      have hAB : ∀ q, xA B S q → B ≤ q := by
        intro q hq
        rcases hq with ⟨a, -, rfl⟩ | hq
        · omega
        · omega
      have key : ∀ k, k ≤ n → xG p l e (headSpec (xc_ws y) (xrm y)).room s m (as.map (xv B g)).toArray below meth c (MQ below (xQc D dA B g (xA B S) v S1) (as.map (xv B g)).toArray s (xc_mc y) (xc_ms y) (xA B S)) D dA B g (xA B S) (xc_nl y) (xev k y) (.inr v, S1) := by
        intro k
        induction k with
        | zero =>
          intro _ pc lv st cn qn S2 h2
          cases h2
        | succ k ihk =>
          intro hk pc lv st cn qn S2 h2
          have hKk := ihk (by omega)
          unfold xev at h2
          split at h2
          · next i hc =>
            exact xstep_ok hX hN hG hA hAB hKk (fun y2 as2 S3 v2 S4 hy2 h3 => ih k (by omega) y2 as2 S3 v2 S4 hy2 h3)
              (fun x o hcx ho hcs h3 => by
                unfold xthr at h3
                split at h3
                · split at h3
                  · split at h3
                    · split at h3
                      · cases h3
                      · cases h3
                    · cases h3
                  · cases h3
                · cases h3)
              (fun hc1 c1 c2 h3 => xs_ends hX hc1 c1 c2 h3) (fun hc1 c1 c2 h3 => xs_endl hX hc1 c1 c2 h3) (fun hc1 c1 c2 h3 => xs_enda hX hc1 c1 c2 h3) (fun hc1 c1 c2 h3 => xs_endv hX hc1 c1 c2 h3) (fun o x y2 na ex t S3 _ _ ht => by rw [xh_hnd hy] at ht; cases ht) hc h2
          · cases h2
      have hl := lv_entry (as.map (xv B g)) (n := xc_nl y) (by rw [x_sl]; exact hfit)
      rw [x_args] at hl
      rw [lg_entry_eq]
      exact key n (Nat.le_refl n) 0 _ [] 0 0 S h _ s.heap [] hl hH va_S.rf (fun a ha => Or.inl ⟨a, ha, rfl⟩)
    · cases h
