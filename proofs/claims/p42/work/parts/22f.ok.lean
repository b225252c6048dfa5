set_option maxRecDepth 100000 in
theorem rf_okU_95 : rf_okU 95 = true := by decide +kernel
set_option maxRecDepth 100000 in
theorem rf_okU_96 : rf_okU 96 = true := by decide +kernel
set_option maxRecDepth 100000 in
theorem rf_okU_97 : rf_okU 97 = true := by decide +kernel
set_option maxRecDepth 100000 in
theorem rf_okU_98 : rf_okU 98 = true := by decide +kernel
set_option maxRecDepth 100000 in
theorem rf_okU_99 : rf_okU 99 = true := by decide +kernel
set_option maxRecDepth 100000 in
theorem rf_okU_100 : rf_okU 100 = true := by decide +kernel
set_option maxRecDepth 100000 in
theorem rf_okU_101 : rf_okU 101 = true := by decide +kernel
set_option maxRecDepth 100000 in
theorem rf_okU_102 : rf_okU 102 = true := by decide +kernel
set_option maxRecDepth 100000 in
theorem rf_okU_103 : rf_okU 103 = true := by decide +kernel
set_option maxRecDepth 100000 in
theorem rf_okU_105 : rf_okU 105 = true := by decide +kernel
set_option maxRecDepth 100000 in
theorem rf_okU_106 : rf_okU 106 = true := by decide +kernel
set_option maxRecDepth 100000 in
theorem rf_okU_107 : rf_okU 107 = true := by decide +kernel
set_option maxRecDepth 100000 in
theorem rf_okU_108 : rf_okU 108 = true := by decide +kernel
set_option maxRecDepth 100000 in
theorem rf_okU_109 : rf_okU 109 = true := by decide +kernel
set_option maxRecDepth 100000 in
theorem rf_okU_110 : rf_okU 110 = true := by decide +kernel
set_option maxRecDepth 100000 in
theorem rf_okU_115 : rf_okU 115 = true := by decide +kernel
set_option maxRecDepth 100000 in
theorem rf_okU_116 : rf_okU 116 = true := by decide +kernel
set_option maxRecDepth 100000 in
theorem rf_okU_117 : rf_okU 117 = true := by decide +kernel
set_option maxRecDepth 100000 in
theorem rf_okU_118 : rf_okU 118 = true := by decide +kernel
theorem rf_okG_5 : ∀ u ∈ ([95, 96, 97, 98, 99, 100, 101, 102, 103, 105, 106, 107, 108, 109, 110, 115, 116, 117, 118] : List Nat), rf_okU u = true := List.forall_mem_cons.mpr ⟨rf_okU_95, List.forall_mem_cons.mpr ⟨rf_okU_96, List.forall_mem_cons.mpr ⟨rf_okU_97, List.forall_mem_cons.mpr ⟨rf_okU_98, List.forall_mem_cons.mpr ⟨rf_okU_99, List.forall_mem_cons.mpr ⟨rf_okU_100, List.forall_mem_cons.mpr ⟨rf_okU_101, List.forall_mem_cons.mpr ⟨rf_okU_102, List.forall_mem_cons.mpr ⟨rf_okU_103, List.forall_mem_cons.mpr ⟨rf_okU_105, List.forall_mem_cons.mpr ⟨rf_okU_106, List.forall_mem_cons.mpr ⟨rf_okU_107, List.forall_mem_cons.mpr ⟨rf_okU_108, List.forall_mem_cons.mpr ⟨rf_okU_109, List.forall_mem_cons.mpr ⟨rf_okU_110, List.forall_mem_cons.mpr ⟨rf_okU_115, List.forall_mem_cons.mpr ⟨rf_okU_116, List.forall_mem_cons.mpr ⟨rf_okU_117, List.forall_mem_cons.mpr ⟨rf_okU_118, fun _ h => absurd h List.not_mem_nil⟩⟩⟩⟩⟩⟩⟩⟩⟩⟩⟩⟩⟩⟩⟩⟩⟩⟩⟩
