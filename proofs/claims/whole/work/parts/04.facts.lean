theorem xc_all_len : xc_all.length = 187 := by decide +kernel
theorem xh_dec {y pc : Nat} {i : Instr} (h : xc_code y pc = some i) : ∃ l : Nat, decode (xc_b y) pc = .ok (i, l) ∧ (xlen i = 0 ∨ l = xlen i) := by
  unfold xc_code at h
  have hy : y < 187 := by
    rcases Nat.lt_or_ge y 187 with q | q
    · exact q
    · rw [List.getD_eq_getElem?_getD, List.getElem?_eq_none (by rw [xc_all_len]; exact q)] at h
      simp at h
  obtain ⟨e, he, hi⟩ := Option.map_eq_some_iff.mp h
  have h1 := List.mem_of_find?_eq_some he
  have h2 := List.find?_some he
  have h3 := List.all_eq_true.mp (xdc_ok hy) e h1
  unfold xdc1 at h3
  have hp : e.1 = pc := by simpa using h2
  rw [hp] at h3
  cases hd : decode (xc_b y) pc with
  | error x => rw [hd] at h3; simp at h3
  | ok r =>
    obtain ⟨i2, l⟩ := r
    rw [hd] at h3
    simp only [Bool.and_eq_true, Bool.or_eq_true, decide_eq_true_eq] at h3
    obtain ⟨e1, e2⟩ := h3
    have e3 : i2 = i := e1.trans hi
    subst e3
    exact ⟨l, rfl, e2⟩
def xc_tbl : List Cond := lw_tbl.filter goodWord
def xc_ws (y : Nat) : List Cond := Cond.code (xc_y y) (xc_b y) (xc_nl y) (xc_rt y) :: xc_tbl
theorem xw_in {i : Nat} {w : Cond} (h : tables_1[i]? = some w) (hg : goodWord w = true) : w ∈ xc_tbl := List.mem_filter.mpr ⟨List.mem_append_right _ (List.mem_of_getElem? h), hg⟩
theorem xw_good {w : Cond} (h : w ∈ xc_tbl) : goodWord w = true := (List.mem_filter.mp h).2
theorem xw_sub {w : Cond} (h : w ∈ xc_tbl) : w ∈ lw_tbl := (List.mem_filter.mp h).1
set_option maxRecDepth 1000000 in
theorem xk_all : (List.range 173).map (fun y => Cond.code (xc_y y) (xc_b y) (xc_nl y) (xc_rt y)) = xc_cps.filterMap (fun i => tables_1[i]?) := rfl
theorem xh_code {y : Nat} (h : y < 173) : Cond.code (xc_y y) (xc_b y) (xc_nl y) (xc_rt y) ∈ xc_tbl := by
  have h1 : Cond.code (xc_y y) (xc_b y) (xc_nl y) (xc_rt y) ∈ (List.range 173).map (fun y => Cond.code (xc_y y) (xc_b y) (xc_nl y) (xc_rt y)) := List.mem_map.mpr ⟨y, List.mem_range.mpr h, rfl⟩
  rw [xk_all] at h1
  obtain ⟨i, -, hi⟩ := List.mem_filterMap.mp h1
  exact xw_in hi rfl
