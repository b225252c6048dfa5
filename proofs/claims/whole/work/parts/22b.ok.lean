set_option maxRecDepth 100000 in
theorem rf_okU_30 : rf_okU 30 = true := by decide +kernel
set_option maxRecDepth 100000 in
theorem rf_okU_31 : rf_okU 31 = true := by decide +kernel
set_option maxRecDepth 100000 in
theorem rf_okU_32 : rf_okU 32 = true := by decide +kernel
set_option maxRecDepth 100000 in
theorem rf_okU_33 : rf_okU 33 = true := by decide +kernel
set_option maxRecDepth 100000 in
theorem rf_okU_34 : rf_okU 34 = true := by decide +kernel
set_option maxRecDepth 100000 in
theorem rf_okU_35 : rf_okU 35 = true := by decide +kernel
set_option maxRecDepth 100000 in
theorem rf_okU_36 : rf_okU 36 = true := by decide +kernel
set_option maxRecDepth 100000 in
theorem rf_okU_37 : rf_okU 37 = true := by decide +kernel
set_option maxRecDepth 100000 in
theorem rf_okU_38 : rf_okU 38 = true := by decide +kernel
set_option maxRecDepth 100000 in
theorem rf_okU_39 : rf_okU 39 = true := by decide +kernel
set_option maxRecDepth 100000 in
theorem rf_okU_40 : rf_okU 40 = true := by decide +kernel
set_option maxRecDepth 100000 in
theorem rf_okU_41 : rf_okU 41 = true := by decide +kernel
set_option maxRecDepth 100000 in
theorem rf_okU_42 : rf_okU 42 = true := by decide +kernel
set_option maxRecDepth 100000 in
theorem rf_okU_43 : rf_okU 43 = true := by decide +kernel
set_option maxRecDepth 100000 in
theorem rf_okU_44 : rf_okU 44 = true := by decide +kernel
set_option maxRecDepth 100000 in
theorem rf_okU_45 : rf_okU 45 = true := by decide +kernel
set_option maxRecDepth 100000 in
theorem rf_okU_46 : rf_okU 46 = true := by decide +kernel
set_option maxRecDepth 100000 in
theorem rf_okU_47 : rf_okU 47 = true := by decide +kernel
set_option maxRecDepth 100000 in
theorem rf_okU_48 : rf_okU 48 = true := by decide +kernel
set_option maxRecDepth 100000 in
theorem rf_okU_49 : rf_okU 49 = true := by decide +kernel
set_option maxRecDepth 100000 in
theorem rf_okU_50 : rf_okU 50 = true := by decide +kernel
theorem rf_okG_1 : ∀ u ∈ ([30, 31, 32, 33, 34, 35, 36, 37, 38, 39, 40, 41, 42, 43, 44, 45, 46, 47, 48, 49, 50] : List Nat), rf_okU u = true := List.forall_mem_cons.mpr ⟨rf_okU_30, List.forall_mem_cons.mpr ⟨rf_okU_31, List.forall_mem_cons.mpr ⟨rf_okU_32, List.forall_mem_cons.mpr ⟨rf_okU_33, List.forall_mem_cons.mpr ⟨rf_okU_34, List.forall_mem_cons.mpr ⟨rf_okU_35, List.forall_mem_cons.mpr ⟨rf_okU_36, List.forall_mem_cons.mpr ⟨rf_okU_37, List.forall_mem_cons.mpr ⟨rf_okU_38, List.forall_mem_cons.mpr ⟨rf_okU_39, List.forall_mem_cons.mpr ⟨rf_okU_40, List.forall_mem_cons.mpr ⟨rf_okU_41, List.forall_mem_cons.mpr ⟨rf_okU_42, List.forall_mem_cons.mpr ⟨rf_okU_43, List.forall_mem_cons.mpr ⟨rf_okU_44, List.forall_mem_cons.mpr ⟨rf_okU_45, List.forall_mem_cons.mpr ⟨rf_okU_46, List.forall_mem_cons.mpr ⟨rf_okU_47, List.forall_mem_cons.mpr ⟨rf_okU_48, List.forall_mem_cons.mpr ⟨rf_okU_49, List.forall_mem_cons.mpr ⟨rf_okU_50, fun _ h => absurd h List.not_mem_nil⟩⟩⟩⟩⟩⟩⟩⟩⟩⟩⟩⟩⟩⟩⟩⟩⟩⟩⟩⟩⟩
