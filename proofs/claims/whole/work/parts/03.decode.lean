-- the tables' instructions are what the bytes decode to
def xdc (y : Nat) : Bool := (xc_all.getD y []).all (fun e => match decode (xc_b y) e.1 with
  | .ok (i, l) => decide (i = e.2) && (decide (xlen i = 0) || decide (l = xlen i))
  | .error _ => false)
set_option maxRecDepth 100000 in
theorem xdc_0 : (List.range' 0 12).all xdc = true := by decide +kernel
set_option maxRecDepth 100000 in
theorem xdc_12 : (List.range' 12 12).all xdc = true := by decide +kernel
set_option maxRecDepth 100000 in
theorem xdc_24 : (List.range' 24 12).all xdc = true := by decide +kernel
set_option maxRecDepth 100000 in
theorem xdc_36 : (List.range' 36 12).all xdc = true := by decide +kernel
set_option maxRecDepth 100000 in
theorem xdc_48 : (List.range' 48 12).all xdc = true := by decide +kernel
set_option maxRecDepth 100000 in
theorem xdc_60 : (List.range' 60 12).all xdc = true := by decide +kernel
set_option maxRecDepth 100000 in
theorem xdc_72 : (List.range' 72 12).all xdc = true := by decide +kernel
set_option maxRecDepth 100000 in
theorem xdc_84 : (List.range' 84 12).all xdc = true := by decide +kernel
set_option maxRecDepth 100000 in
theorem xdc_96 : (List.range' 96 12).all xdc = true := by decide +kernel
set_option maxRecDepth 100000 in
theorem xdc_108 : (List.range' 108 12).all xdc = true := by decide +kernel
set_option maxRecDepth 100000 in
theorem xdc_120 : (List.range' 120 12).all xdc = true := by decide +kernel
set_option maxRecDepth 100000 in
theorem xdc_132 : (List.range' 132 12).all xdc = true := by decide +kernel
set_option maxRecDepth 100000 in
theorem xdc_144 : (List.range' 144 12).all xdc = true := by decide +kernel
set_option maxRecDepth 100000 in
theorem xdc_156 : (List.range' 156 12).all xdc = true := by decide +kernel
set_option maxRecDepth 100000 in
theorem xdc_168 : (List.range' 168 12).all xdc = true := by decide +kernel
set_option maxRecDepth 100000 in
theorem xdc_180 : (List.range' 180 6).all xdc = true := by decide +kernel
theorem xdc_ok {y : Nat} (h : y < 186) : xdc y = true := by
  by_cases h0 : y < 12
  · exact List.all_eq_true.mp xdc_0 y (List.mem_range'_1.mpr ⟨by omega, by omega⟩)
  by_cases h12 : y < 24
  · exact List.all_eq_true.mp xdc_12 y (List.mem_range'_1.mpr ⟨by omega, by omega⟩)
  by_cases h24 : y < 36
  · exact List.all_eq_true.mp xdc_24 y (List.mem_range'_1.mpr ⟨by omega, by omega⟩)
  by_cases h36 : y < 48
  · exact List.all_eq_true.mp xdc_36 y (List.mem_range'_1.mpr ⟨by omega, by omega⟩)
  by_cases h48 : y < 60
  · exact List.all_eq_true.mp xdc_48 y (List.mem_range'_1.mpr ⟨by omega, by omega⟩)
  by_cases h60 : y < 72
  · exact List.all_eq_true.mp xdc_60 y (List.mem_range'_1.mpr ⟨by omega, by omega⟩)
  by_cases h72 : y < 84
  · exact List.all_eq_true.mp xdc_72 y (List.mem_range'_1.mpr ⟨by omega, by omega⟩)
  by_cases h84 : y < 96
  · exact List.all_eq_true.mp xdc_84 y (List.mem_range'_1.mpr ⟨by omega, by omega⟩)
  by_cases h96 : y < 108
  · exact List.all_eq_true.mp xdc_96 y (List.mem_range'_1.mpr ⟨by omega, by omega⟩)
  by_cases h108 : y < 120
  · exact List.all_eq_true.mp xdc_108 y (List.mem_range'_1.mpr ⟨by omega, by omega⟩)
  by_cases h120 : y < 132
  · exact List.all_eq_true.mp xdc_120 y (List.mem_range'_1.mpr ⟨by omega, by omega⟩)
  by_cases h132 : y < 144
  · exact List.all_eq_true.mp xdc_132 y (List.mem_range'_1.mpr ⟨by omega, by omega⟩)
  by_cases h144 : y < 156
  · exact List.all_eq_true.mp xdc_144 y (List.mem_range'_1.mpr ⟨by omega, by omega⟩)
  by_cases h156 : y < 168
  · exact List.all_eq_true.mp xdc_156 y (List.mem_range'_1.mpr ⟨by omega, by omega⟩)
  by_cases h168 : y < 180
  · exact List.all_eq_true.mp xdc_168 y (List.mem_range'_1.mpr ⟨by omega, by omega⟩)
  by_cases h180 : y < 186
  · exact List.all_eq_true.mp xdc_180 y (List.mem_range'_1.mpr ⟨by omega, by omega⟩)
  omega
