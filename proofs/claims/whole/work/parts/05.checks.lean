def xc_lps : List (List Nat) := [[360, 362, 364, 366, 368, 370], [108, 110], [286, 288, 290, 292, 294], [196, 198, 200, 202], [141, 143, 145, 147, 149, 151, 153, 155], [310, 312], [51, 53, 55, 57, 59, 61, 63, 65, 67], [339, 341, 343, 345, 347, 349], [230, 232, 234, 236, 238], [266, 268, 270, 272, 274], [322], [1002, 1004, 1006, 1008, 1010, 1012, 1014, 1016, 1018, 1020, 1022, 1024, 1026, 1028, 1030, 1032, 1034, 1036, 1038, 1040, 1042, 1044, 1046, 1048, 1050, 1052, 1054, 1056, 1058, 1060, 1062, 1064, 1066, 1068, 1070, 1072, 1074, 1076, 1078, 1080, 1082, 1084, 1086, 1088, 1090, 1092, 1094, 1096, 1098, 1100, 1102, 1104, 1106, 1108, 1110]]
def xc_inst : List Nat := [22, 92, 72, 167, 86, 298, 30, 326, 158, 78, 316, 942]
def xc_inip : List Nat := [1, 6, 3, 8, 5, 9, 2, 11, 7, 4, 10, 12, 0]
def xc_sps : List Nat := [9999, 383, 462, 498, 512, 543, 737, 760, 783, 801, 846, 375, 920, 927, 939, 9999, 9999, 9999, 9999, 9999, 9999, 9999, 9999, 536, 593, 532, 689, 704, 9999, 516, 555, 9999, 9999, 9999, 9999, 9999, 9999, 9999, 9999, 9999, 9999, 9999, 9999, 9999, 9999, 9999, 9999, 9999, 9999, 9999, 9999, 9999, 9999, 9999, 581, 613, 609, 589, 9999, 520, 638, 650, 654, 630, 634, 642, 9999, 814, 932, 839, 9999, 454, 491, 505, 563, 725, 571, 805, 9999, 850, 9999, 9999, 9999, 9999, 9999, 9999, 9999, 9999, 9999, 9999, 9999, 9999, 9999, 9999, 524, 528, 559, 9999, 547, 551, 729, 626, 622, 9999, 809, 9999, 9999, 9999, 9999, 9999, 9999, 1116, 9999, 9999, 1120, 9999, 9999, 1131, 1141, 9999, 9999, 9999, 9999, 9999, 9999, 9999, 9999, 1145, 9999, 9999, 9999, 9999, 9999, 9999, 9999, 9999, 9999, 9999, 9999, 9999, 9999, 9999, 9999, 9999, 9999, 9999, 9999, 9999, 1157, 1260, 1264, 1268, 9999, 9999, 9999, 9999, 9999, 9999, 9999, 1272, 9999, 9999, 9999, 9999, 9999, 9999, 9999, 9999, 1308, 1344, 1348, 1352, 1356]
theorem xc_at_mem {α : Type} {L : List (List (Nat × α))} {own x : Nat} {v : α} (h : xc_at L own x = some v) : (x, v) ∈ L.getD own [] := by
  unfold xc_at at h
  obtain ⟨e, he, hv⟩ := Option.map_eq_some_iff.mp h
  have h1 := List.mem_of_find?_eq_some he
  have h2 : e.1 = x := by simpa using List.find?_some he
  rw [← h2, ← hv]
  exact h1
theorem xc_at_own {α : Type} {L : List (List (Nat × α))} {own x n : Nat} {v : α} (hn : L.length = n) (h : xc_at L own x = some v) : own < n := by
  rcases Nat.lt_or_ge own n with q | q
  · exact q
  · have := xc_at_mem h
    rw [List.getD_eq_getElem?_getD, List.getElem?_eq_none (by rw [hn]; exact q)] at this
    simp at this
def xf_fld (own : Nat) (e : Nat × (Nat × Nat) × Nat) : Bool := match xc_cl[e.2.1.1]? with
  | some (C, T, N) => decide (e.2.1.2 < N) && decide (tables_1[e.2.2]? = some (Cond.fieldLink (xc_on own) e.1 C (T e.2.1.2).2.1 (T e.2.1.2).2.2.1))
  | none => false
set_option maxRecDepth 100000 in
theorem xf_fld_ok : (List.range 13).all (fun own => (xc_flds.getD own []).all (xf_fld own)) = true := by decide +kernel
/-- a class: its words, its names, its types, its sorts -/
def xf_cls (ci : Nat) : Bool := match xc_cl[ci]?, xc_cy[ci]? with
  | some (C, T, N), some Y => decide ((xc_fk ci).length = N) && decide (xc_on ci = C) && decide (tables_1[xc_inst.getD ci 9999]? = some (Cond.instantiable C N)) && decide (tables_1[xc_inip.getD ci 9999]? = some (Cond.initialized C)) &&
    (List.range N).all (fun k => decide (tables_1[(xc_lps.getD ci []).getD k 9999]? = some (u_lay C T k)) && goodWord (u_lay C T k) && decide (parseFieldDescriptor (T k).2.2.1 = some (Y k)) && decide ((T k).1 = C) && decide ((T k).2.2.2 = (xc_fins.getD ci []).getD k true) && (List.range N).all (fun b => decide (k = b) || decide ((T k).2.1 ≠ (T b).2.1)) &&
      (if (xc_fk ci).getD k 0 = 0 then decide (Y k = .int) else if (xc_fk ci).getD k 0 = 1 then decide (Y k = .long) else if (xc_fk ci).getD k 0 = 3 then decide (Y k = .boolean) else decide ((xc_fk ci).getD k 0 = 2) && (Y k).isReference))
  | _, _ => false
set_option maxRecDepth 100000 in
theorem xf_cls_ok : (List.range 12).all xf_cls = true := by decide +kernel
/-- a method: its name, its words, its levels -/
def xf_m (y : Nat) : Bool := decide ((xc_y y).cls = xc_on (xc_own y)) && decide ((xc_y y).cls ≠ "java/lang/invoke/MethodHandle") && decide ((xc_y y).cls ≠ "java/lang/invoke/VarHandle") && plainName (xc_y y).cls && decide (xc_nl y ≤ 20) && decide (xc_own y < 12) && decide (tables_1[xc_inip.getD (xc_own y) 9999]? = some (Cond.initialized (xc_y y).cls)) &&
  (if xc_kind y = 0 then decide (tables_1[xc_ips.getD y 9999]? = some (Cond.static (xc_y y))) else decide (tables_1[xc_ips.getD y 9999]? = some (Cond.instanceMethod (xc_y y)))) &&
  (if xc_kind y = 1 then decide (tables_1[xc_sps.getD y 9999]? = some (Cond.selects (xc_y y).cls (xc_y y) (xc_y y))) || decide (xc_y y ∈ lw_privs.map (fun q => q.1)) else if xc_kind y = 2 then decide ((xc_y y).name = "<init>") else true) &&
  (if xc_ret y = 0 then decide (xc_rt y = none) else if xc_ret y = 1 then decide (xc_rt y = some .int) else if xc_ret y = 2 then decide (xc_rt y = some .boolean) else if xc_ret y = 3 then decide (xc_rt y = some .long) else if xc_ret y = 4 then (match xc_rt y with
    | some (.object _) => true
    | _ => false) else false) && decide (1 ≤ xc_lev y)
set_option maxRecDepth 100000 in
theorem xf_m_ok : (List.range 173).all xf_m = true := by decide +kernel
def xf_np (y n : Nat) : Bool := decide ((parseMethodDescriptor (xc_y y).desc).map (fun d => d.parameters.length) = some n)
def xf_vrt (own : Nat) (e : Nat × (Nat × Nat) × Nat) : Bool := decide (e.2.1.1 < 173) && decide (xc_kind e.2.1.1 = 1) && decide (1 ≤ e.2.1.2) && xf_np e.2.1.1 (e.2.1.2 - 1) && decide (tables_1[e.2.2]? = some (Cond.methodLink (xc_on own) e.1 (xc_y e.2.1.1)))
def xf_stt (own : Nat) (e : Nat × (Nat × Nat) × Nat) : Bool := decide (e.2.1.1 < 173) && decide (xc_kind e.2.1.1 = 0) && xf_np e.2.1.1 e.2.1.2 && decide (tables_1[e.2.2]? = some (Cond.methodLink (xc_on own) e.1 (xc_y e.2.1.1))) && decide ((xc_y e.2.1.1).cls = xc_on own)
def xf_spc (own : Nat) (e : Nat × (Nat × Nat) × Bool × Nat) : Bool := decide (e.2.1.1 < 173) && decide (xc_kind e.2.1.1 = 2) && decide (1 ≤ e.2.1.2) && xf_np e.2.1.1 (e.2.1.2 - 1) && (if e.2.2.1 = true then decide (tables_1[e.2.2.2]? = some (Cond.methodLinkNest (xc_on own) e.1 (xc_y e.2.1.1) "SnapForge")) else decide (tables_1[e.2.2.2]? = some (Cond.methodLink (xc_on own) e.1 (xc_y e.2.1.1))))
set_option maxRecDepth 100000 in
theorem xf_vrt_ok : (List.range 13).all (fun own => (xc_vrts.getD own []).all (xf_vrt own)) = true := by decide +kernel
set_option maxRecDepth 100000 in
theorem xf_stt_ok : (List.range 13).all (fun own => (xc_stts.getD own []).all (xf_stt own)) = true := by decide +kernel
set_option maxRecDepth 100000 in
theorem xf_spc_ok : (List.range 13).all (fun own => (xc_spcs.getD own []).all (xf_spc own)) = true := by decide +kernel
def xf_obj (own : Nat) (e : Nat × Nat) : Bool := decide (tables_1[e.2]? = some (Cond.methodLink (xc_on own) e.1 objectInit))
set_option maxRecDepth 100000 in
theorem xf_obj_ok : (List.range 13).all (fun own => (xc_objs.getD own []).all (xf_obj own)) = true := by decide +kernel
def xf_new (own : Nat) (e : Nat × Nat × Nat) : Bool := decide (e.2.1 < 12) && decide (tables_1[e.2.2]? = some (Cond.classLink (xc_on own) e.1 (xc_on e.2.1)))
set_option maxRecDepth 100000 in
theorem xf_new_ok : (List.range 13).all (fun own => (xc_news.getD own []).all (xf_new own)) = true := by decide +kernel
def xf_anew (own : Nat) (e : Nat × Nat × Nat) : Bool := decide (3 ≤ e.2.1) && decide (e.2.1 < 5) && decide (tables_1[e.2.2]? = some (Cond.classLink (xc_on own) e.1 (xc_on (xc_ac e.2.1))))
set_option maxRecDepth 100000 in
theorem xf_anew_ok : (List.range 13).all (fun own => (xc_anews.getD own []).all (xf_anew own)) = true := by decide +kernel
def xf_long (own : Nat) (e : Nat × Int64 × Nat) : Bool := decide (tables_1[e.2.2]? = some (Cond.constantLong (xc_on own) e.1 e.2.1))
set_option maxRecDepth 100000 in
theorem xf_long_ok : (List.range 13).all (fun own => (xc_longs.getD own []).all (xf_long own)) = true := by decide +kernel
/-- of every method, the law's wrappers too: what it answers, its level -/
def xf_r (y : Nat) : Bool := (if xc_ret y = 0 then decide (xc_rt y = none) else if xc_ret y = 1 then decide (xc_rt y = some .int) else if xc_ret y = 2 then decide (xc_rt y = some .boolean) else if xc_ret y = 3 then decide (xc_rt y = some .long) else if xc_ret y = 4 then (match xc_rt y with
    | some (.object _) => true
    | _ => false) else false) && decide (1 ≤ xc_lev y)
theorem xf_r_ok : (List.range 187).all xf_r = true := by decide +kernel
theorem xf_h0 : (List.range 173).all (fun y => decide (xc_hnds.getD y [] = [])) = true := by decide +kernel
theorem xh_hnd {y pc ex : Nat} (h : y < 173) : xc_hnd y pc ex = none := by
  have h1 := List.all_eq_true.mp xf_h0 y (List.mem_range.mpr h)
  have h2 : xc_hnds.getD y [] = [] := by simpa using h1
  unfold xc_hnd
  rw [h2]
  rfl
