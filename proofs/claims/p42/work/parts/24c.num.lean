def rg_Dc (q : Nat × Nat × Int) : Bool := decide (rg_D0 q.1 q.2.1 = q.2.2)
set_option maxRecDepth 100000 in
theorem rg_Dt0 : rg_DL0.all rg_Dc = true := by decide +kernel
set_option maxRecDepth 100000 in
theorem rg_Dt1 : rg_DL1.all rg_Dc = true := by decide +kernel
set_option maxRecDepth 100000 in
theorem rg_Dt2 : rg_DL2.all rg_Dc = true := by decide +kernel
set_option maxRecDepth 100000 in
theorem rg_Dt3 : rg_DL3.all rg_Dc = true := by decide +kernel
set_option maxRecDepth 100000 in
theorem rg_Dt4 : rg_DL4.all rg_Dc = true := by decide +kernel
set_option maxRecDepth 100000 in
theorem rg_Dt5 : rg_DL5.all rg_Dc = true := by decide +kernel
set_option maxRecDepth 100000 in
theorem rg_Dt6 : rg_DL6.all rg_Dc = true := by decide +kernel
