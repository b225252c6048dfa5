set_option maxRecDepth 100000 in
theorem rf_okU_133 : rf_okU 133 = true := by decide +kernel
set_option maxRecDepth 100000 in
theorem rf_okU_134 : rf_okU 134 = true := by decide +kernel
set_option maxRecDepth 100000 in
theorem rf_okU_135 : rf_okU 135 = true := by decide +kernel
set_option maxRecDepth 100000 in
theorem rf_okU_136 : rf_okU 136 = true := by decide +kernel
set_option maxRecDepth 100000 in
theorem rf_okU_137 : rf_okU 137 = true := by decide +kernel
set_option maxRecDepth 100000 in
theorem rf_okU_138 : rf_okU 138 = true := by decide +kernel
set_option maxRecDepth 100000 in
theorem rf_okU_139 : rf_okU 139 = true := by decide +kernel
set_option maxRecDepth 100000 in
theorem rf_okU_140 : rf_okU 140 = true := by decide +kernel
set_option maxRecDepth 100000 in
theorem rf_okU_141 : rf_okU 141 = true := by decide +kernel
set_option maxRecDepth 100000 in
theorem rf_okU_142 : rf_okU 142 = true := by decide +kernel
set_option maxRecDepth 100000 in
theorem rf_okU_143 : rf_okU 143 = true := by decide +kernel
set_option maxRecDepth 100000 in
theorem rf_okU_144 : rf_okU 144 = true := by decide +kernel
set_option maxRecDepth 100000 in
theorem rf_okU_145 : rf_okU 145 = true := by decide +kernel
set_option maxRecDepth 100000 in
theorem rf_okU_146 : rf_okU 146 = true := by decide +kernel
set_option maxRecDepth 100000 in
theorem rf_okU_147 : rf_okU 147 = true := by decide +kernel
set_option maxRecDepth 100000 in
theorem rf_okU_148 : rf_okU 148 = true := by decide +kernel
set_option maxRecDepth 100000 in
theorem rf_okU_149 : rf_okU 149 = true := by decide +kernel
set_option maxRecDepth 100000 in
theorem rf_okU_150 : rf_okU 150 = true := by decide +kernel
set_option maxRecDepth 100000 in
theorem rf_okU_151 : rf_okU 151 = true := by decide +kernel
set_option maxRecDepth 100000 in
theorem rf_okU_152 : rf_okU 152 = true := by decide +kernel
theorem rf_okG_6 : ∀ u ∈ ([133, 134, 135, 136, 137, 138, 139, 140, 141, 142, 143, 144, 145, 146, 147, 148, 149, 150, 151, 152] : List Nat), rf_okU u = true := List.forall_mem_cons.mpr ⟨rf_okU_133, List.forall_mem_cons.mpr ⟨rf_okU_134, List.forall_mem_cons.mpr ⟨rf_okU_135, List.forall_mem_cons.mpr ⟨rf_okU_136, List.forall_mem_cons.mpr ⟨rf_okU_137, List.forall_mem_cons.mpr ⟨rf_okU_138, List.forall_mem_cons.mpr ⟨rf_okU_139, List.forall_mem_cons.mpr ⟨rf_okU_140, List.forall_mem_cons.mpr ⟨rf_okU_141, List.forall_mem_cons.mpr ⟨rf_okU_142, List.forall_mem_cons.mpr ⟨rf_okU_143, List.forall_mem_cons.mpr ⟨rf_okU_144, List.forall_mem_cons.mpr ⟨rf_okU_145, List.forall_mem_cons.mpr ⟨rf_okU_146, List.forall_mem_cons.mpr ⟨rf_okU_147, List.forall_mem_cons.mpr ⟨rf_okU_148, List.forall_mem_cons.mpr ⟨rf_okU_149, List.forall_mem_cons.mpr ⟨rf_okU_150, List.forall_mem_cons.mpr ⟨rf_okU_151, List.forall_mem_cons.mpr ⟨rf_okU_152, fun _ h => absurd h List.not_mem_nil⟩⟩⟩⟩⟩⟩⟩⟩⟩⟩⟩⟩⟩⟩⟩⟩⟩⟩⟩⟩
