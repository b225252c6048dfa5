/-! The law's own rows are what the machine reads. -/
set_option maxRecDepth 100000 in
theorem rf_okLw_6 : List.all rf_t_L_law_6 (rf_okE rf_m_L_law) = true := by decide +kernel
set_option maxRecDepth 100000 in
theorem rf_okLw_7 : List.all rf_t_L_law_7 (rf_okE rf_m_L_law) = true := by decide +kernel
