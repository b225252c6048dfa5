set_option maxRecDepth 100000 in
theorem rf_okU_51 : rf_okU 51 = true := by decide +kernel
set_option maxRecDepth 100000 in
theorem rf_okU_52 : rf_okU 52 = true := by decide +kernel
set_option maxRecDepth 100000 in
theorem rf_okU_53 : rf_okU 53 = true := by decide +kernel
set_option maxRecDepth 100000 in
theorem rf_okU_54 : rf_okU 54 = true := by decide +kernel
set_option maxRecDepth 100000 in
theorem rf_okU_55 : rf_okU 55 = true := by decide +kernel
set_option maxRecDepth 100000 in
theorem rf_okU_56 : rf_okU 56 = true := by decide +kernel
set_option maxRecDepth 100000 in
theorem rf_okU_57 : rf_okU 57 = true := by decide +kernel
set_option maxRecDepth 100000 in
theorem rf_okU_58 : rf_okU 58 = true := by decide +kernel
set_option maxRecDepth 100000 in
theorem rf_okU_59 : rf_okU 59 = true := by decide +kernel
set_option maxRecDepth 100000 in
theorem rf_okU_60 : rf_okU 60 = true := by decide +kernel
set_option maxRecDepth 100000 in
theorem rf_okU_61 : rf_okU 61 = true := by decide +kernel
set_option maxRecDepth 100000 in
theorem rf_okU_62 : rf_okU 62 = true := by decide +kernel
set_option maxRecDepth 100000 in
theorem rf_okU_63 : rf_okU 63 = true := by decide +kernel
set_option maxRecDepth 100000 in
theorem rf_okU_64 : rf_okU 64 = true := by decide +kernel
set_option maxRecDepth 100000 in
theorem rf_okU_65 : rf_okU 65 = true := by decide +kernel
set_option maxRecDepth 100000 in
theorem rf_okU_66 : rf_okU 66 = true := by decide +kernel
set_option maxRecDepth 100000 in
theorem rf_okU_67 : rf_okU 67 = true := by decide +kernel
set_option maxRecDepth 100000 in
theorem rf_okU_68 : rf_okU 68 = true := by decide +kernel
set_option maxRecDepth 100000 in
theorem rf_okU_69 : rf_okU 69 = true := by decide +kernel
set_option maxRecDepth 100000 in
theorem rf_okU_70 : rf_okU 70 = true := by decide +kernel
set_option maxRecDepth 100000 in
theorem rf_okU_71 : rf_okU 71 = true := by decide +kernel
set_option maxRecDepth 100000 in
theorem rf_okU_72 : rf_okU 72 = true := by decide +kernel
set_option maxRecDepth 100000 in
theorem rf_okU_73 : rf_okU 73 = true := by decide +kernel
theorem rf_okG_2 : ∀ u ∈ ([51, 52, 53, 54, 55, 56, 57, 58, 59, 60, 61, 62, 63, 64, 65, 66, 67, 68, 69, 70, 71, 72, 73] : List Nat), rf_okU u = true := List.forall_mem_cons.mpr ⟨rf_okU_51, List.forall_mem_cons.mpr ⟨rf_okU_52, List.forall_mem_cons.mpr ⟨rf_okU_53, List.forall_mem_cons.mpr ⟨rf_okU_54, List.forall_mem_cons.mpr ⟨rf_okU_55, List.forall_mem_cons.mpr ⟨rf_okU_56, List.forall_mem_cons.mpr ⟨rf_okU_57, List.forall_mem_cons.mpr ⟨rf_okU_58, List.forall_mem_cons.mpr ⟨rf_okU_59, List.forall_mem_cons.mpr ⟨rf_okU_60, List.forall_mem_cons.mpr ⟨rf_okU_61, List.forall_mem_cons.mpr ⟨rf_okU_62, List.forall_mem_cons.mpr ⟨rf_okU_63, List.forall_mem_cons.mpr ⟨rf_okU_64, List.forall_mem_cons.mpr ⟨rf_okU_65, List.forall_mem_cons.mpr ⟨rf_okU_66, List.forall_mem_cons.mpr ⟨rf_okU_67, List.forall_mem_cons.mpr ⟨rf_okU_68, List.forall_mem_cons.mpr ⟨rf_okU_69, List.forall_mem_cons.mpr ⟨rf_okU_70, List.forall_mem_cons.mpr ⟨rf_okU_71, List.forall_mem_cons.mpr ⟨rf_okU_72, List.forall_mem_cons.mpr ⟨rf_okU_73, fun _ h => absurd h List.not_mem_nil⟩⟩⟩⟩⟩⟩⟩⟩⟩⟩⟩⟩⟩⟩⟩⟩⟩⟩⟩⟩⟩⟩⟩
