set_option maxRecDepth 100000 in
theorem rf_okU_188 : rf_okU 188 = true := by decide +kernel
set_option maxRecDepth 100000 in
theorem rf_okU_189 : rf_okU 189 = true := by decide +kernel
set_option maxRecDepth 100000 in
theorem rf_okU_190 : rf_okU 190 = true := by decide +kernel
set_option maxRecDepth 100000 in
theorem rf_okU_191 : rf_okU 191 = true := by decide +kernel
set_option maxRecDepth 100000 in
theorem rf_okU_192 : rf_okU 192 = true := by decide +kernel
set_option maxRecDepth 100000 in
theorem rf_okU_193 : rf_okU 193 = true := by decide +kernel
set_option maxRecDepth 100000 in
theorem rf_okU_194 : rf_okU 194 = true := by decide +kernel
set_option maxRecDepth 100000 in
theorem rf_okU_195 : rf_okU 195 = true := by decide +kernel
set_option maxRecDepth 100000 in
theorem rf_okU_196 : rf_okU 196 = true := by decide +kernel
theorem rf_okG_9 : ∀ u ∈ ([188, 189, 190, 191, 192, 193, 194, 195, 196] : List Nat), rf_okU u = true := List.forall_mem_cons.mpr ⟨rf_okU_188, List.forall_mem_cons.mpr ⟨rf_okU_189, List.forall_mem_cons.mpr ⟨rf_okU_190, List.forall_mem_cons.mpr ⟨rf_okU_191, List.forall_mem_cons.mpr ⟨rf_okU_192, List.forall_mem_cons.mpr ⟨rf_okU_193, List.forall_mem_cons.mpr ⟨rf_okU_194, List.forall_mem_cons.mpr ⟨rf_okU_195, List.forall_mem_cons.mpr ⟨rf_okU_196, fun _ h => absurd h List.not_mem_nil⟩⟩⟩⟩⟩⟩⟩⟩⟩
