set_option maxRecDepth 100000 in
theorem rf_okU_172 : rf_okU 172 = true := by decide +kernel
set_option maxRecDepth 100000 in
theorem rf_okU_173 : rf_okU 173 = true := by decide +kernel
set_option maxRecDepth 100000 in
theorem rf_okU_174 : rf_okU 174 = true := by decide +kernel
set_option maxRecDepth 100000 in
theorem rf_okU_175 : rf_okU 175 = true := by decide +kernel
set_option maxRecDepth 100000 in
theorem rf_okU_176 : rf_okU 176 = true := by decide +kernel
set_option maxRecDepth 100000 in
theorem rf_okU_177 : rf_okU 177 = true := by decide +kernel
set_option maxRecDepth 100000 in
theorem rf_okU_178 : rf_okU 178 = true := by decide +kernel
set_option maxRecDepth 100000 in
theorem rf_okU_179 : rf_okU 179 = true := by decide +kernel
set_option maxRecDepth 100000 in
theorem rf_okU_180 : rf_okU 180 = true := by decide +kernel
set_option maxRecDepth 100000 in
theorem rf_okU_181 : rf_okU 181 = true := by decide +kernel
set_option maxRecDepth 100000 in
theorem rf_okU_182 : rf_okU 182 = true := by decide +kernel
set_option maxRecDepth 100000 in
theorem rf_okU_183 : rf_okU 183 = true := by decide +kernel
set_option maxRecDepth 100000 in
theorem rf_okU_184 : rf_okU 184 = true := by decide +kernel
set_option maxRecDepth 100000 in
theorem rf_okU_185 : rf_okU 185 = true := by decide +kernel
set_option maxRecDepth 100000 in
theorem rf_okU_186 : rf_okU 186 = true := by decide +kernel
set_option maxRecDepth 100000 in
theorem rf_okU_187 : rf_okU 187 = true := by decide +kernel
theorem rf_okG_8 : ∀ u ∈ ([172, 173, 174, 175, 176, 177, 178, 179, 180, 181, 182, 183, 184, 185, 186, 187] : List Nat), rf_okU u = true := List.forall_mem_cons.mpr ⟨rf_okU_172, List.forall_mem_cons.mpr ⟨rf_okU_173, List.forall_mem_cons.mpr ⟨rf_okU_174, List.forall_mem_cons.mpr ⟨rf_okU_175, List.forall_mem_cons.mpr ⟨rf_okU_176, List.forall_mem_cons.mpr ⟨rf_okU_177, List.forall_mem_cons.mpr ⟨rf_okU_178, List.forall_mem_cons.mpr ⟨rf_okU_179, List.forall_mem_cons.mpr ⟨rf_okU_180, List.forall_mem_cons.mpr ⟨rf_okU_181, List.forall_mem_cons.mpr ⟨rf_okU_182, List.forall_mem_cons.mpr ⟨rf_okU_183, List.forall_mem_cons.mpr ⟨rf_okU_184, List.forall_mem_cons.mpr ⟨rf_okU_185, List.forall_mem_cons.mpr ⟨rf_okU_186, List.forall_mem_cons.mpr ⟨rf_okU_187, fun _ h => absurd h List.not_mem_nil⟩⟩⟩⟩⟩⟩⟩⟩⟩⟩⟩⟩⟩⟩⟩⟩
