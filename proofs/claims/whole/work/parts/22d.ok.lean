set_option maxRecDepth 100000 in
theorem rf_okU_74 : rf_okU 74 = true := by decide +kernel
set_option maxRecDepth 100000 in
theorem rf_okU_75 : rf_okU 75 = true := by decide +kernel
set_option maxRecDepth 100000 in
theorem rf_okU_76 : rf_okU 76 = true := by decide +kernel
set_option maxRecDepth 100000 in
theorem rf_okU_77 : rf_okU 77 = true := by decide +kernel
set_option maxRecDepth 100000 in
theorem rf_okU_78 : rf_okU 78 = true := by decide +kernel
set_option maxRecDepth 100000 in
theorem rf_okU_79 : rf_okU 79 = true := by decide +kernel
set_option maxRecDepth 100000 in
theorem rf_okU_80 : rf_okU 80 = true := by decide +kernel
set_option maxRecDepth 100000 in
theorem rf_okU_81 : rf_okU 81 = true := by decide +kernel
set_option maxRecDepth 100000 in
theorem rf_okU_82 : rf_okU 82 = true := by decide +kernel
set_option maxRecDepth 100000 in
theorem rf_okU_83 : rf_okU 83 = true := by decide +kernel
set_option maxRecDepth 100000 in
theorem rf_okU_84 : rf_okU 84 = true := by decide +kernel
set_option maxRecDepth 100000 in
theorem rf_okU_85 : rf_okU 85 = true := by decide +kernel
set_option maxRecDepth 100000 in
theorem rf_okU_86 : rf_okU 86 = true := by decide +kernel
set_option maxRecDepth 100000 in
theorem rf_okU_87 : rf_okU 87 = true := by decide +kernel
set_option maxRecDepth 100000 in
theorem rf_okU_88 : rf_okU 88 = true := by decide +kernel
set_option maxRecDepth 100000 in
theorem rf_okU_89 : rf_okU 89 = true := by decide +kernel
set_option maxRecDepth 100000 in
theorem rf_okU_90 : rf_okU 90 = true := by decide +kernel
set_option maxRecDepth 100000 in
theorem rf_okU_91 : rf_okU 91 = true := by decide +kernel
set_option maxRecDepth 100000 in
theorem rf_okU_92 : rf_okU 92 = true := by decide +kernel
set_option maxRecDepth 100000 in
theorem rf_okU_93 : rf_okU 93 = true := by decide +kernel
theorem rf_okG_3 : ∀ u ∈ ([74, 75, 76, 77, 78, 79, 80, 81, 82, 83, 84, 85, 86, 87, 88, 89, 90, 91, 92, 93] : List Nat), rf_okU u = true := List.forall_mem_cons.mpr ⟨rf_okU_74, List.forall_mem_cons.mpr ⟨rf_okU_75, List.forall_mem_cons.mpr ⟨rf_okU_76, List.forall_mem_cons.mpr ⟨rf_okU_77, List.forall_mem_cons.mpr ⟨rf_okU_78, List.forall_mem_cons.mpr ⟨rf_okU_79, List.forall_mem_cons.mpr ⟨rf_okU_80, List.forall_mem_cons.mpr ⟨rf_okU_81, List.forall_mem_cons.mpr ⟨rf_okU_82, List.forall_mem_cons.mpr ⟨rf_okU_83, List.forall_mem_cons.mpr ⟨rf_okU_84, List.forall_mem_cons.mpr ⟨rf_okU_85, List.forall_mem_cons.mpr ⟨rf_okU_86, List.forall_mem_cons.mpr ⟨rf_okU_87, List.forall_mem_cons.mpr ⟨rf_okU_88, List.forall_mem_cons.mpr ⟨rf_okU_89, List.forall_mem_cons.mpr ⟨rf_okU_90, List.forall_mem_cons.mpr ⟨rf_okU_91, List.forall_mem_cons.mpr ⟨rf_okU_92, List.forall_mem_cons.mpr ⟨rf_okU_93, fun _ h => absurd h List.not_mem_nil⟩⟩⟩⟩⟩⟩⟩⟩⟩⟩⟩⟩⟩⟩⟩⟩⟩⟩⟩⟩
