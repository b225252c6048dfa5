set_option maxRecDepth 100000 in
theorem rf_okU_42 : rf_okU 42 = true := by decide +kernel
set_option maxRecDepth 100000 in
theorem rf_okU_43 : rf_okU 43 = true := by decide +kernel
set_option maxRecDepth 100000 in
theorem rf_okU_44 : rf_okU 44 = true := by decide +kernel
set_option maxRecDepth 100000 in
theorem rf_okU_45 : rf_okU 45 = true := by decide +kernel
set_option maxRecDepth 100000 in
theorem rf_okU_46 : rf_okU 46 = true := by decide +kernel
set_option maxRecDepth 100000 in
theorem rf_okU_47 : rf_okU 47 = true := by decide +kernel
set_option maxRecDepth 100000 in
theorem rf_okU_48 : rf_okU 48 = true := by decide +kernel
set_option maxRecDepth 100000 in
theorem rf_okU_49 : rf_okU 49 = true := by decide +kernel
set_option maxRecDepth 100000 in
theorem rf_okU_50 : rf_okU 50 = true := by decide +kernel
set_option maxRecDepth 100000 in
theorem rf_okU_51 : rf_okU 51 = true := by decide +kernel
set_option maxRecDepth 100000 in
theorem rf_okU_52 : rf_okU 52 = true := by decide +kernel
set_option maxRecDepth 100000 in
theorem rf_okU_53 : rf_okU 53 = true := by decide +kernel
set_option maxRecDepth 100000 in
theorem rf_okU_54 : rf_okU 54 = true := by decide +kernel
theorem rf_okG_2 : ∀ u ∈ ([42, 43, 44, 45, 46, 47, 48, 49, 50, 51, 52, 53, 54] : List Nat), rf_okU u = true := List.forall_mem_cons.mpr ⟨rf_okU_42, List.forall_mem_cons.mpr ⟨rf_okU_43, List.forall_mem_cons.mpr ⟨rf_okU_44, List.forall_mem_cons.mpr ⟨rf_okU_45, List.forall_mem_cons.mpr ⟨rf_okU_46, List.forall_mem_cons.mpr ⟨rf_okU_47, List.forall_mem_cons.mpr ⟨rf_okU_48, List.forall_mem_cons.mpr ⟨rf_okU_49, List.forall_mem_cons.mpr ⟨rf_okU_50, List.forall_mem_cons.mpr ⟨rf_okU_51, List.forall_mem_cons.mpr ⟨rf_okU_52, List.forall_mem_cons.mpr ⟨rf_okU_53, List.forall_mem_cons.mpr ⟨rf_okU_54, fun _ h => absurd h List.not_mem_nil⟩⟩⟩⟩⟩⟩⟩⟩⟩⟩⟩⟩⟩
