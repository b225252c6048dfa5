/-! The law's own rows are what the machine reads. -/
set_option maxRecDepth 100000 in
theorem rf_okLw_0 : List.all rf_t_L_law_0 (rf_okE rf_m_L_law) = true := by decide +kernel
set_option maxRecDepth 100000 in
theorem rf_okLw_1 : List.all rf_t_L_law_1 (rf_okE rf_m_L_law) = true := by decide +kernel
