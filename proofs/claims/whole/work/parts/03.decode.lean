-- the tables' instructions are what the bytes decode to
def xdc1 (y : Nat) (e : Nat × Instr) : Bool := match decode (xc_b y) e.1 with
  | .ok (i, l) => decide (i = e.2) && (decide (xlen i = 0) || decide (l = xlen i))
  | .error _ => false
def xdc (y : Nat) : Bool := (xc_all.getD y []).all (xdc1 y)
set_option maxRecDepth 100000 in
theorem xdc_0 : (List.range' 0 12).all xdc = true := by decide +kernel
set_option maxRecDepth 100000 in
theorem xdc_12 : (List.range' 12 12).all xdc = true := by decide +kernel
set_option maxRecDepth 100000 in
theorem xdc_24 : (List.range' 24 12).all xdc = true := by decide +kernel
set_option maxRecDepth 100000 in
theorem xdc_36 : (List.range' 36 12).all xdc = true := by decide +kernel
set_option maxRecDepth 100000 in
theorem xdc_48 : (List.range' 48 12).all xdc = true := by decide +kernel
set_option maxRecDepth 100000 in
theorem xdc_60 : (List.range' 60 12).all xdc = true := by decide +kernel
set_option maxRecDepth 100000 in
theorem xdc_72 : (List.range' 72 12).all xdc = true := by decide +kernel
set_option maxRecDepth 100000 in
theorem xdc_84 : (List.range' 84 12).all xdc = true := by decide +kernel
set_option maxRecDepth 100000 in
theorem xdc_96 : (List.range' 96 12).all xdc = true := by decide +kernel
set_option maxRecDepth 100000 in
theorem xdc_108 : (List.range' 108 12).all xdc = true := by decide +kernel
set_option maxRecDepth 100000 in
theorem xdc_120 : (List.range' 120 12).all xdc = true := by decide +kernel
set_option maxRecDepth 100000 in
theorem xdc_132 : (List.range' 132 12).all xdc = true := by decide +kernel
set_option maxRecDepth 100000 in
theorem xdc_144 : (List.range' 144 12).all xdc = true := by decide +kernel
set_option maxRecDepth 100000 in
theorem xdc_156 : (List.range' 156 12).all xdc = true := by decide +kernel
set_option maxRecDepth 100000 in
theorem xdc_168 : (List.range' 168 12).all xdc = true := by decide +kernel
set_option maxRecDepth 100000 in
theorem xdc_180 : (List.range' 180 6).all xdc = true := by decide +kernel
