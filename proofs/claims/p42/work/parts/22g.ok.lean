set_option maxRecDepth 100000 in
theorem rf_okU_119 : rf_okU 119 = true := by decide +kernel
set_option maxRecDepth 100000 in
theorem rf_okU_120 : rf_okU 120 = true := by decide +kernel
set_option maxRecDepth 100000 in
theorem rf_okU_121 : rf_okU 121 = true := by decide +kernel
set_option maxRecDepth 100000 in
theorem rf_okU_122 : rf_okU 122 = true := by decide +kernel
set_option maxRecDepth 100000 in
theorem rf_okU_123 : rf_okU 123 = true := by decide +kernel
set_option maxRecDepth 100000 in
theorem rf_okU_124 : rf_okU 124 = true := by decide +kernel
set_option maxRecDepth 100000 in
theorem rf_okU_125 : rf_okU 125 = true := by decide +kernel
set_option maxRecDepth 100000 in
theorem rf_okU_126 : rf_okU 126 = true := by decide +kernel
set_option maxRecDepth 100000 in
theorem rf_okU_127 : rf_okU 127 = true := by decide +kernel
set_option maxRecDepth 100000 in
theorem rf_okU_128 : rf_okU 128 = true := by decide +kernel
set_option maxRecDepth 100000 in
theorem rf_okU_129 : rf_okU 129 = true := by decide +kernel
set_option maxRecDepth 100000 in
theorem rf_okU_130 : rf_okU 130 = true := by decide +kernel
set_option maxRecDepth 100000 in
theorem rf_okU_131 : rf_okU 131 = true := by decide +kernel
set_option maxRecDepth 100000 in
theorem rf_okU_132 : rf_okU 132 = true := by decide +kernel
theorem rf_okG_6 : ∀ u ∈ ([119, 120, 121, 122, 123, 124, 125, 126, 127, 128, 129, 130, 131, 132] : List Nat), rf_okU u = true := List.forall_mem_cons.mpr ⟨rf_okU_119, List.forall_mem_cons.mpr ⟨rf_okU_120, List.forall_mem_cons.mpr ⟨rf_okU_121, List.forall_mem_cons.mpr ⟨rf_okU_122, List.forall_mem_cons.mpr ⟨rf_okU_123, List.forall_mem_cons.mpr ⟨rf_okU_124, List.forall_mem_cons.mpr ⟨rf_okU_125, List.forall_mem_cons.mpr ⟨rf_okU_126, List.forall_mem_cons.mpr ⟨rf_okU_127, List.forall_mem_cons.mpr ⟨rf_okU_128, List.forall_mem_cons.mpr ⟨rf_okU_129, List.forall_mem_cons.mpr ⟨rf_okU_130, List.forall_mem_cons.mpr ⟨rf_okU_131, List.forall_mem_cons.mpr ⟨rf_okU_132, fun _ h => absurd h List.not_mem_nil⟩⟩⟩⟩⟩⟩⟩⟩⟩⟩⟩⟩⟩⟩
