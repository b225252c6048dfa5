set_option maxRecDepth 100000 in
theorem rf_okU_153 : rf_okU 153 = true := by decide +kernel
set_option maxRecDepth 100000 in
theorem rf_okU_154 : rf_okU 154 = true := by decide +kernel
set_option maxRecDepth 100000 in
theorem rf_okU_155 : rf_okU 155 = true := by decide +kernel
set_option maxRecDepth 100000 in
theorem rf_okU_156 : rf_okU 156 = true := by decide +kernel
set_option maxRecDepth 100000 in
theorem rf_okU_157 : rf_okU 157 = true := by decide +kernel
set_option maxRecDepth 100000 in
theorem rf_okU_158 : rf_okU 158 = true := by decide +kernel
set_option maxRecDepth 100000 in
theorem rf_okU_159 : rf_okU 159 = true := by decide +kernel
set_option maxRecDepth 100000 in
theorem rf_okU_160 : rf_okU 160 = true := by decide +kernel
set_option maxRecDepth 100000 in
theorem rf_okU_161 : rf_okU 161 = true := by decide +kernel
set_option maxRecDepth 100000 in
theorem rf_okU_162 : rf_okU 162 = true := by decide +kernel
set_option maxRecDepth 100000 in
theorem rf_okU_163 : rf_okU 163 = true := by decide +kernel
set_option maxRecDepth 100000 in
theorem rf_okU_164 : rf_okU 164 = true := by decide +kernel
set_option maxRecDepth 100000 in
theorem rf_okU_165 : rf_okU 165 = true := by decide +kernel
set_option maxRecDepth 100000 in
theorem rf_okU_166 : rf_okU 166 = true := by decide +kernel
set_option maxRecDepth 100000 in
theorem rf_okU_167 : rf_okU 167 = true := by decide +kernel
set_option maxRecDepth 100000 in
theorem rf_okU_168 : rf_okU 168 = true := by decide +kernel
set_option maxRecDepth 100000 in
theorem rf_okU_169 : rf_okU 169 = true := by decide +kernel
set_option maxRecDepth 100000 in
theorem rf_okU_170 : rf_okU 170 = true := by decide +kernel
set_option maxRecDepth 100000 in
theorem rf_okU_171 : rf_okU 171 = true := by decide +kernel
theorem rf_okG_7 : ∀ u ∈ ([153, 154, 155, 156, 157, 158, 159, 160, 161, 162, 163, 164, 165, 166, 167, 168, 169, 170, 171] : List Nat), rf_okU u = true := List.forall_mem_cons.mpr ⟨rf_okU_153, List.forall_mem_cons.mpr ⟨rf_okU_154, List.forall_mem_cons.mpr ⟨rf_okU_155, List.forall_mem_cons.mpr ⟨rf_okU_156, List.forall_mem_cons.mpr ⟨rf_okU_157, List.forall_mem_cons.mpr ⟨rf_okU_158, List.forall_mem_cons.mpr ⟨rf_okU_159, List.forall_mem_cons.mpr ⟨rf_okU_160, List.forall_mem_cons.mpr ⟨rf_okU_161, List.forall_mem_cons.mpr ⟨rf_okU_162, List.forall_mem_cons.mpr ⟨rf_okU_163, List.forall_mem_cons.mpr ⟨rf_okU_164, List.forall_mem_cons.mpr ⟨rf_okU_165, List.forall_mem_cons.mpr ⟨rf_okU_166, List.forall_mem_cons.mpr ⟨rf_okU_167, List.forall_mem_cons.mpr ⟨rf_okU_168, List.forall_mem_cons.mpr ⟨rf_okU_169, List.forall_mem_cons.mpr ⟨rf_okU_170, List.forall_mem_cons.mpr ⟨rf_okU_171, fun _ h => absurd h List.not_mem_nil⟩⟩⟩⟩⟩⟩⟩⟩⟩⟩⟩⟩⟩⟩⟩⟩⟩⟩⟩
