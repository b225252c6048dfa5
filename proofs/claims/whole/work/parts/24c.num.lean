set_option maxRecDepth 100000 in
theorem rg_Dt0 : rg_DL0.all rg_Dc = true := by decide +kernel
set_option maxRecDepth 100000 in
theorem rg_Dt1 : rg_DL1.all rg_Dc = true := by decide +kernel
set_option maxRecDepth 100000 in
theorem rg_Dt2 : rg_DL2.all rg_Dc = true := by decide +kernel
set_option maxRecDepth 100000 in
theorem rg_Dt3 : rg_DL3.all rg_Dc = true := by decide +kernel
set_option maxRecDepth 100000 in
theorem rg_Dt4 : rg_DL4.all rg_Dc = true := by decide +kernel
set_option maxRecDepth 100000 in
theorem rg_Dt5 : rg_DL5.all rg_Dc = true := by decide +kernel
set_option maxRecDepth 100000 in
theorem rg_Dt6 : rg_DL6.all rg_Dc = true := by decide +kernel
set_option maxRecDepth 100000 in
theorem rg_Dt7 : rg_DL7.all rg_Dc = true := by decide +kernel
set_option maxRecDepth 100000 in
theorem rg_Dt8 : rg_DL8.all rg_Dc = true := by decide +kernel
set_option maxRecDepth 100000 in
theorem rg_Dt9 : rg_DL9.all rg_Dc = true := by decide +kernel
set_option maxRecDepth 100000 in
theorem rg_Dt10 : rg_DL10.all rg_Dc = true := by decide +kernel
set_option maxRecDepth 100000 in
theorem rg_Dt11 : rg_DL11.all rg_Dc = true := by decide +kernel
set_option maxRecDepth 100000 in
theorem rg_Dt12 : rg_DL12.all rg_Dc = true := by decide +kernel
set_option maxRecDepth 100000 in
theorem rg_Dt13 : rg_DL13.all rg_Dc = true := by decide +kernel
