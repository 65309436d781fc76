-- the law's own code, in slices
set_option maxRecDepth 100000 in
theorem xdcL_0 : ((xq_186.drop 0).take 40).all (xdc1 186) = true := by decide +kernel
set_option maxRecDepth 100000 in
theorem xdcL_40 : ((xq_186.drop 40).take 40).all (xdc1 186) = true := by decide +kernel
set_option maxRecDepth 100000 in
theorem xdcL_80 : ((xq_186.drop 80).take 40).all (xdc1 186) = true := by decide +kernel
set_option maxRecDepth 100000 in
theorem xdcL_120 : ((xq_186.drop 120).take 40).all (xdc1 186) = true := by decide +kernel
set_option maxRecDepth 100000 in
theorem xdcL_160 : ((xq_186.drop 160).take 40).all (xdc1 186) = true := by decide +kernel
set_option maxRecDepth 100000 in
theorem xdcL_200 : ((xq_186.drop 200).take 40).all (xdc1 186) = true := by decide +kernel
set_option maxRecDepth 100000 in
theorem xdcL_240 : ((xq_186.drop 240).take 40).all (xdc1 186) = true := by decide +kernel
set_option maxRecDepth 100000 in
theorem xdcL_280 : ((xq_186.drop 280).take 40).all (xdc1 186) = true := by decide +kernel
set_option maxRecDepth 100000 in
theorem xdcL_320 : ((xq_186.drop 320).take 40).all (xdc1 186) = true := by decide +kernel
set_option maxRecDepth 100000 in
theorem xdcL_360 : ((xq_186.drop 360).take 40).all (xdc1 186) = true := by decide +kernel
set_option maxRecDepth 100000 in
theorem xdcL_400 : ((xq_186.drop 400).take 40).all (xdc1 186) = true := by decide +kernel
set_option maxRecDepth 100000 in
theorem xdcL_440 : ((xq_186.drop 440).take 40).all (xdc1 186) = true := by decide +kernel
set_option maxRecDepth 100000 in
theorem xdcL_480 : ((xq_186.drop 480).take 40).all (xdc1 186) = true := by decide +kernel
set_option maxRecDepth 100000 in
theorem xdcL_520 : ((xq_186.drop 520).take 40).all (xdc1 186) = true := by decide +kernel
set_option maxRecDepth 100000 in
theorem xdcL_560 : ((xq_186.drop 560).take 40).all (xdc1 186) = true := by decide +kernel
theorem xall_split {α : Type} (p : α → Bool) (L : List α) (k n : Nat) (h : ((L.drop k).take n).all p = true) (h2 : (L.drop (k + n)).all p = true) : (L.drop k).all p = true := by
  rw [← List.take_append_drop n (L.drop k), List.all_append, h, List.drop_drop, h2]; rfl
set_option maxRecDepth 100000 in
theorem xdcL_end : (xq_186.drop 600).all (xdc1 186) = true := by decide +kernel
theorem xdc_186 : (xq_186.drop 0).all (xdc1 186) = true := xall_split _ xq_186 0 40 xdcL_0 (xall_split _ xq_186 40 40 xdcL_40 (xall_split _ xq_186 80 40 xdcL_80 (xall_split _ xq_186 120 40 xdcL_120 (xall_split _ xq_186 160 40 xdcL_160 (xall_split _ xq_186 200 40 xdcL_200 (xall_split _ xq_186 240 40 xdcL_240 (xall_split _ xq_186 280 40 xdcL_280 (xall_split _ xq_186 320 40 xdcL_320 (xall_split _ xq_186 360 40 xdcL_360 (xall_split _ xq_186 400 40 xdcL_400 (xall_split _ xq_186 440 40 xdcL_440 (xall_split _ xq_186 480 40 xdcL_480 (xall_split _ xq_186 520 40 xdcL_520 (xall_split _ xq_186 560 40 xdcL_560 (xdcL_end)))))))))))))))
theorem xdc_ok {y : Nat} (h : y < 187) : xdc y = true := by
  by_cases h0 : y < 12
  · exact List.all_eq_true.mp xdc_0 y (List.mem_range'_1.mpr ⟨by omega, by omega⟩)
  by_cases h12 : y < 24
  · exact List.all_eq_true.mp xdc_12 y (List.mem_range'_1.mpr ⟨by omega, by omega⟩)
  by_cases h24 : y < 36
  · exact List.all_eq_true.mp xdc_24 y (List.mem_range'_1.mpr ⟨by omega, by omega⟩)
  by_cases h36 : y < 48
  · exact List.all_eq_true.mp xdc_36 y (List.mem_range'_1.mpr ⟨by omega, by omega⟩)
  by_cases h48 : y < 60
  · exact List.all_eq_true.mp xdc_48 y (List.mem_range'_1.mpr ⟨by omega, by omega⟩)
  by_cases h60 : y < 72
  · exact List.all_eq_true.mp xdc_60 y (List.mem_range'_1.mpr ⟨by omega, by omega⟩)
  by_cases h72 : y < 84
  · exact List.all_eq_true.mp xdc_72 y (List.mem_range'_1.mpr ⟨by omega, by omega⟩)
  by_cases h84 : y < 96
  · exact List.all_eq_true.mp xdc_84 y (List.mem_range'_1.mpr ⟨by omega, by omega⟩)
  by_cases h96 : y < 108
  · exact List.all_eq_true.mp xdc_96 y (List.mem_range'_1.mpr ⟨by omega, by omega⟩)
  by_cases h108 : y < 120
  · exact List.all_eq_true.mp xdc_108 y (List.mem_range'_1.mpr ⟨by omega, by omega⟩)
  by_cases h120 : y < 132
  · exact List.all_eq_true.mp xdc_120 y (List.mem_range'_1.mpr ⟨by omega, by omega⟩)
  by_cases h132 : y < 144
  · exact List.all_eq_true.mp xdc_132 y (List.mem_range'_1.mpr ⟨by omega, by omega⟩)
  by_cases h144 : y < 156
  · exact List.all_eq_true.mp xdc_144 y (List.mem_range'_1.mpr ⟨by omega, by omega⟩)
  by_cases h156 : y < 168
  · exact List.all_eq_true.mp xdc_156 y (List.mem_range'_1.mpr ⟨by omega, by omega⟩)
  by_cases h168 : y < 180
  · exact List.all_eq_true.mp xdc_168 y (List.mem_range'_1.mpr ⟨by omega, by omega⟩)
  by_cases h180 : y < 186
  · exact List.all_eq_true.mp xdc_180 y (List.mem_range'_1.mpr ⟨by omega, by omega⟩)
  have e : y = 186 := by omega
  rw [e]
  unfold xdc
  exact xdc_186
