def rg_Pc (q : Nat × Nat × Option Nat) : Bool := decide (rg_P q.1 q.2.1 = q.2.2)
set_option maxRecDepth 100000 in
theorem rg_Pt0 : rg_PL0.all rg_Pc = true := by decide +kernel
set_option maxRecDepth 100000 in
theorem rg_Pt1 : rg_PL1.all rg_Pc = true := by decide +kernel
set_option maxRecDepth 100000 in
theorem rg_Pt2 : rg_PL2.all rg_Pc = true := by decide +kernel
set_option maxRecDepth 100000 in
theorem rg_Pt3 : rg_PL3.all rg_Pc = true := by decide +kernel
set_option maxRecDepth 100000 in
theorem rg_Pt4 : rg_PL4.all rg_Pc = true := by decide +kernel
set_option maxRecDepth 100000 in
theorem rg_Pt5 : rg_PL5.all rg_Pc = true := by decide +kernel
set_option maxRecDepth 100000 in
theorem rg_Pt6 : rg_PL6.all rg_Pc = true := by decide +kernel
set_option maxRecDepth 100000 in
theorem rg_Pt7 : rg_PL7.all rg_Pc = true := by decide +kernel
set_option maxRecDepth 100000 in
theorem rg_Pt8 : rg_PL8.all rg_Pc = true := by decide +kernel
set_option maxRecDepth 100000 in
theorem rg_Pt9 : rg_PL9.all rg_Pc = true := by decide +kernel
set_option maxRecDepth 100000 in
theorem rg_Pt10 : rg_PL10.all rg_Pc = true := by decide +kernel
