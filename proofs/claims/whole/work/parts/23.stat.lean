-- WHAT A THROW AND A CATCH ASK OF THE STATE, in a form that moves
/-- a static field of Throwable, below B: laid, and a reference or null -/
def xLs (n d : String) (B : Nat) (U : State) : Prop := ∃ (c : ClassId) (k : Class) (i : Nat) (f : Field) (a : Nat) (cell : Cell) (v : Value), U.vm.findClass Bundle.tN = some c ∧ U.fieldFound? Bundle.tN n d = some (c, k, i, f) ∧ f.isStatic = true ∧ k.statics = some a ∧ U.heap[a]? = some cell ∧ cell.vm.isStatics = true ∧ cell.cls = c ∧ f.slot < cell.slots.size ∧ k.staticTypes[f.slot]? = some f.type ∧ a < B ∧ cell.slots[f.slot]? = some v ∧ (v = .null ∨ ∃ t, v = .ref t)
theorem xLs.move {n d : String} {B : Nat} {s U : State} (h : xLs n d B s) (hvm : s.vm.Alike U.vm) (hh : ∀ a : Nat, a < s.heap.size → ¬ B ≤ a → U.heap[a]? = s.heap[a]?) : xLs n d B U := by
  obtain ⟨c, k, i, f, a, cell, v, h1, h2, h3, h4, h5, h6, h7, h8, h9, h10, h11, h12⟩ := h
  obtain ⟨k', hi, hek⟩ := State.fieldFound?_setVm hvm h2
  have e1 : U.fieldFound? Bundle.tN n d = some (c, k', i, f) := hi
  refine ⟨c, k', i, f, a, cell, v, by rw [hvm.findClass]; exact h1, e1, h3, by rw [hek]; exact h4, ?_, h6, h7, h8, by rw [hek]; exact h9, h10, h11, h12⟩
  rw [hh a (Array.getElem?_eq_some_iff.mp h5).1 (by omega)]
  exact h5
theorem xLs.lays {n d : String} {B : Nat} {U : State} (h : xLs n d B U) (args : Array Value) : (Cond.laysStatic Bundle.tN n d).before args U = true := by
  obtain ⟨c, k, i, f, a, cell, v, h1, h2, h3, h4, h5, h6, h7, h8, h9, h10, h11, h12⟩ := h
  exact Cond.laysStatic_of h1 h2 h3 h4 h5 h6 h7 h8 h9
theorem xLs.isRef {n d : String} {B : Nat} {U : State} (h : xLs n d B U) (args : Array Value) : (Cond.isRef (.static Bundle.tN n d)).before args U = true := by
  obtain ⟨c, k, i, f, a, cell, v, h1, h2, h3, h4, h5, h6, h7, h8, h9, h10, h11, h12⟩ := h
  have he : (Term.static Bundle.tN n d).eval args U none [] U = some v := by
    simp [Term.eval, State.fieldNamed?, h2, h3, h4, h5, h6, h11]
  simp only [Cond.before, Cond.holds, Cond.value, he]
  rcases h12 with e | ⟨x, e⟩ <;> simp [e]
theorem xLs.of {n d : String} {B : Nat} {U : State} {args : Array Value} (h1 : (Cond.laysStatic Bundle.tN n d).before args U = true) (h2 : (Cond.isRef (.static Bundle.tN n d)).before args U = true) (hB : B = U.heap.size) : xLs n d B U := by
  obtain ⟨c, k, i, f, a, cell, g1, g2, g3, g4, g5, g6, g7, g8, g9⟩ := Cond.laysStatic_spec h1
  have hv : cell.slots[f.slot]? = some cell.slots[f.slot] := Array.getElem?_eq_getElem g8
  have he : (Term.static Bundle.tN n d).eval args U none [] U = some cell.slots[f.slot] := by
    simp [Term.eval, State.fieldNamed?, g2, g3, g4, g5, g6, hv]
  refine ⟨c, k, i, f, a, cell, _, g1, g2, g3, g4, g5, g6, g7, g8, g9, by rw [hB]; exact (Array.getElem?_eq_some_iff.mp g5).1, hv, ?_⟩
  simp only [Cond.before, Cond.holds, Cond.value, he] at h2
  revert h2
  cases cell.slots[f.slot] <;> simp
/-- what a throw and a catch ask, and below B -/
def xTq (B : Nat) (U : State) : Prop := (∀ e, e < 4 → ∀ w ∈ Bundle.ownAtoms0 "SnapForge" (xc_ic e) (xc_en e) xc_up, w.onTables = true → w.before #[] U = true) ∧ xLs "UNASSIGNED_STACK" Bundle.steD B U ∧ xLs "SUPPRESSED_SENTINEL" Bundle.listD B U ∧ ∀ e1 e2, e1 < 4 → e2 < 4 → e1 ≠ e2 → va_Nc (xc_en e1) (xc_en e2) U
theorem xTq.move {B : Nat} {s U : State} (h : xTq B s) (hW : s.WarmedH U.vm) (hh : ∀ a : Nat, a < s.heap.size → ¬ B ≤ a → U.heap[a]? = s.heap[a]?) : xTq B U := by
  obtain ⟨h1, h2, h3, h4⟩ := h
  refine ⟨fun e he w hw ht => ?_, h2.move hW.alike hh, h3.move hW.alike hh, fun e1 e2 g1 g2 g3 => (h4 e1 e2 g1 g2 g3).moved hW.alike⟩
  have k1 : w.keepsFace = true := by
    simp only [Bundle.ownAtoms0, Bundle.throwableAtoms, Bundle.chain0Atoms, Bundle.passAtoms, xc_up, List.mem_append, List.mem_cons, List.not_mem_nil, or_false] at hw
    rcases hw with ((((hw | hw | hw | hw | hw | hw | hw | hw | hw | hw | hw | hw | hw | hw | hw | hw | hw | hw | hw | hw | hw | hw | hw | hw) | (hw | hw | hw | hw | hw) | (hw | hw | hw | hw | hw) | (hw | hw | hw | hw | hw))) | (hw | hw | hw | hw | hw | hw | hw | hw | hw | hw | hw | hw | hw | hw)) <;> subst hw <;> rfl
  have k2 := Cond.before_shiftedFace (State.Shifted.of_warmed hW) w k1 (h1 e he w hw ht)
  exact va_tabs (u := s.setVm U.vm) ht rfl k2
theorem xTq.same {B : Nat} {s U : State} (h : xTq B s) (hv : U.vm = s.vm) (hh : U.heap = s.heap) : xTq B U := by
  obtain ⟨h1, h2, h3, h4⟩ := h
  have ha : s.vm.Alike U.vm := by rw [hv]; exact Vm.Alike.refl s.vm
  exact ⟨fun e he w hw ht => va_tabs ht hv.symm (h1 e he w hw ht), h2.move ha (fun a _ _ => by rw [hh]), h3.move ha (fun a _ _ => by rw [hh]), fun e1 e2 g1 g2 g3 => (h4 e1 e2 g1 g2 g3).moved ha⟩
theorem xTq.th {B : Nat} {U : State} (h : xTq B U) : xTh U := by
  intro e he w hw
  by_cases ht : w.onTables = true
  · exact h.1 e he w hw ht
  · simp only [Bundle.ownAtoms0, Bundle.throwableAtoms, Bundle.chain0Atoms, Bundle.passAtoms, xc_up, List.mem_append, List.mem_cons, List.not_mem_nil, or_false] at hw
    rcases hw with ((((hw | hw | hw | hw | hw | hw | hw | hw | hw | hw | hw | hw | hw | hw | hw | hw | hw | hw | hw | hw | hw | hw | hw | hw) | (hw | hw | hw | hw | hw) | (hw | hw | hw | hw | hw) | (hw | hw | hw | hw | hw))) | (hw | hw | hw | hw | hw | hw | hw | hw | hw | hw | hw | hw | hw | hw)) <;> subst hw <;> first | exact absurd rfl ht | exact h.2.1.lays _ | exact h.2.2.1.lays _ | exact h.2.1.isRef _ | exact h.2.2.1.isRef _
theorem xTh_same {s U : State} (h : xTh s) (hv : U.vm = s.vm) (hh : U.heap = s.heap) : xTh U := by
  intro e he w hw
  have h9 := h e he w hw
  by_cases ht : w.onTables = true
  · exact va_tabs ht hv.symm h9
  · have hb : ∀ n d, (Cond.laysStatic Bundle.tN n d).before #[] s = true → (Cond.laysStatic Bundle.tN n d).before #[] U = true := by
      intro n d h5
      obtain ⟨c, k, i, f, a, cell, g1, g2, g3, g4, g5, g6, g7, g8, g9⟩ := Cond.laysStatic_spec h5
      obtain ⟨k', hi, hek⟩ := State.fieldFound?_setVm (vm' := U.vm) (by rw [hv]; exact Vm.Alike.refl s.vm) g2
      exact Cond.laysStatic_of (k := k') (by rw [hv]; exact g1) hi g3 (by rw [hek]; exact g4) (by rw [hh]; exact g5) g6 g7 g8 (by rw [hek]; exact g9)
    have hd : ∀ n d, (Cond.isRef (.static Bundle.tN n d)).before #[] s = true → (Cond.isRef (.static Bundle.tN n d)).before #[] U = true := by
      intro n d h5
      have e1 : (Term.static Bundle.tN n d).eval #[] U none [] U = (Term.static Bundle.tN n d).eval #[] s none [] s := by
        simp only [Term.eval, State.fieldNamed?, State.fieldFound?, hv, hh]
      simp only [Cond.before, Cond.holds, Cond.value, e1] at h5 ⊢
      exact h5
    simp only [Bundle.ownAtoms0, Bundle.throwableAtoms, Bundle.chain0Atoms, Bundle.passAtoms, xc_up, List.mem_append, List.mem_cons, List.not_mem_nil, or_false] at hw
    rcases hw with ((((hw | hw | hw | hw | hw | hw | hw | hw | hw | hw | hw | hw | hw | hw | hw | hw | hw | hw | hw | hw | hw | hw | hw | hw) | (hw | hw | hw | hw | hw) | (hw | hw | hw | hw | hw) | (hw | hw | hw | hw | hw))) | (hw | hw | hw | hw | hw | hw | hw | hw | hw | hw | hw | hw | hw | hw)) <;> subst hw <;> first | exact absurd rfl ht | exact hb _ _ h9 | exact hd _ _ h9
theorem xTh.blind {D : va_G} {dA : Nat → ClassId} {B : Nat} {g : Nat → Nat} {S : xS} (av : List Value) : FrameBlind (va_Pc av (fun U => xU D dA B g S U ∧ xTh U)) := by
  intro a U gg mk h
  obtain ⟨h1, h2, h3⟩ := h
  obtain ⟨-, h5⟩ := xU.blind (D := D) (dA := dA) (B := B) (g := g) (S := S) av a U gg mk ⟨h1, h2⟩
  exact ⟨h1, h5, xTh_same h3 rfl rfl⟩
theorem xTq.blind {D : va_G} {dA : Nat → ClassId} {B : Nat} {g : Nat → Nat} {S : xS} (av : List Value) : FrameBlind (va_Pc av (fun U => xU D dA B g S U ∧ xTq B U)) := by
  intro a U gg mk h
  obtain ⟨h1, h2, h3⟩ := h
  obtain ⟨-, h5⟩ := xU.blind (D := D) (dA := dA) (B := B) (g := g) (S := S) av a U gg mk ⟨h1, h2⟩
  exact ⟨h1, h5, xTq.same h3 rfl rfl⟩
