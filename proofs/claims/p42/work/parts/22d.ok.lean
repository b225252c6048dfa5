set_option maxRecDepth 100000 in
theorem rf_okU_55 : rf_okU 55 = true := by decide +kernel
set_option maxRecDepth 100000 in
theorem rf_okU_56 : rf_okU 56 = true := by decide +kernel
set_option maxRecDepth 100000 in
theorem rf_okU_57 : rf_okU 57 = true := by decide +kernel
set_option maxRecDepth 100000 in
theorem rf_okU_58 : rf_okU 58 = true := by decide +kernel
set_option maxRecDepth 100000 in
theorem rf_okU_59 : rf_okU 59 = true := by decide +kernel
set_option maxRecDepth 100000 in
theorem rf_okU_60 : rf_okU 60 = true := by decide +kernel
set_option maxRecDepth 100000 in
theorem rf_okU_61 : rf_okU 61 = true := by decide +kernel
set_option maxRecDepth 100000 in
theorem rf_okU_65 : rf_okU 65 = true := by decide +kernel
set_option maxRecDepth 100000 in
theorem rf_okU_66 : rf_okU 66 = true := by decide +kernel
set_option maxRecDepth 100000 in
theorem rf_okU_67 : rf_okU 67 = true := by decide +kernel
set_option maxRecDepth 100000 in
theorem rf_okU_68 : rf_okU 68 = true := by decide +kernel
set_option maxRecDepth 100000 in
theorem rf_okU_69 : rf_okU 69 = true := by decide +kernel
set_option maxRecDepth 100000 in
theorem rf_okU_70 : rf_okU 70 = true := by decide +kernel
set_option maxRecDepth 100000 in
theorem rf_okU_74 : rf_okU 74 = true := by decide +kernel
set_option maxRecDepth 100000 in
theorem rf_okU_75 : rf_okU 75 = true := by decide +kernel
set_option maxRecDepth 100000 in
theorem rf_okU_76 : rf_okU 76 = true := by decide +kernel
set_option maxRecDepth 100000 in
theorem rf_okU_77 : rf_okU 77 = true := by decide +kernel
set_option maxRecDepth 100000 in
theorem rf_okU_78 : rf_okU 78 = true := by decide +kernel
set_option maxRecDepth 100000 in
theorem rf_okU_79 : rf_okU 79 = true := by decide +kernel
set_option maxRecDepth 100000 in
theorem rf_okU_80 : rf_okU 80 = true := by decide +kernel
set_option maxRecDepth 100000 in
theorem rf_okU_81 : rf_okU 81 = true := by decide +kernel
theorem rf_okG_3 : ∀ u ∈ ([55, 56, 57, 58, 59, 60, 61, 65, 66, 67, 68, 69, 70, 74, 75, 76, 77, 78, 79, 80, 81] : List Nat), rf_okU u = true := List.forall_mem_cons.mpr ⟨rf_okU_55, List.forall_mem_cons.mpr ⟨rf_okU_56, List.forall_mem_cons.mpr ⟨rf_okU_57, List.forall_mem_cons.mpr ⟨rf_okU_58, List.forall_mem_cons.mpr ⟨rf_okU_59, List.forall_mem_cons.mpr ⟨rf_okU_60, List.forall_mem_cons.mpr ⟨rf_okU_61, List.forall_mem_cons.mpr ⟨rf_okU_65, List.forall_mem_cons.mpr ⟨rf_okU_66, List.forall_mem_cons.mpr ⟨rf_okU_67, List.forall_mem_cons.mpr ⟨rf_okU_68, List.forall_mem_cons.mpr ⟨rf_okU_69, List.forall_mem_cons.mpr ⟨rf_okU_70, List.forall_mem_cons.mpr ⟨rf_okU_74, List.forall_mem_cons.mpr ⟨rf_okU_75, List.forall_mem_cons.mpr ⟨rf_okU_76, List.forall_mem_cons.mpr ⟨rf_okU_77, List.forall_mem_cons.mpr ⟨rf_okU_78, List.forall_mem_cons.mpr ⟨rf_okU_79, List.forall_mem_cons.mpr ⟨rf_okU_80, List.forall_mem_cons.mpr ⟨rf_okU_81, fun _ h => absurd h List.not_mem_nil⟩⟩⟩⟩⟩⟩⟩⟩⟩⟩⟩⟩⟩⟩⟩⟩⟩⟩⟩⟩⟩
