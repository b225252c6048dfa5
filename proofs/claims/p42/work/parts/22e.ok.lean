set_option maxRecDepth 100000 in
theorem rf_okU_82 : rf_okU 82 = true := by decide +kernel
set_option maxRecDepth 100000 in
theorem rf_okU_84 : rf_okU 84 = true := by decide +kernel
set_option maxRecDepth 100000 in
theorem rf_okU_85 : rf_okU 85 = true := by decide +kernel
set_option maxRecDepth 100000 in
theorem rf_okU_87 : rf_okU 87 = true := by decide +kernel
set_option maxRecDepth 100000 in
theorem rf_okU_88 : rf_okU 88 = true := by decide +kernel
set_option maxRecDepth 100000 in
theorem rf_okU_89 : rf_okU 89 = true := by decide +kernel
set_option maxRecDepth 100000 in
theorem rf_okU_90 : rf_okU 90 = true := by decide +kernel
set_option maxRecDepth 100000 in
theorem rf_okU_91 : rf_okU 91 = true := by decide +kernel
set_option maxRecDepth 100000 in
theorem rf_okU_92 : rf_okU 92 = true := by decide +kernel
set_option maxRecDepth 100000 in
theorem rf_okU_93 : rf_okU 93 = true := by decide +kernel
set_option maxRecDepth 100000 in
theorem rf_okU_94 : rf_okU 94 = true := by decide +kernel
theorem rf_okG_4 : ∀ u ∈ ([82, 84, 85, 87, 88, 89, 90, 91, 92, 93, 94] : List Nat), rf_okU u = true := List.forall_mem_cons.mpr ⟨rf_okU_82, List.forall_mem_cons.mpr ⟨rf_okU_84, List.forall_mem_cons.mpr ⟨rf_okU_85, List.forall_mem_cons.mpr ⟨rf_okU_87, List.forall_mem_cons.mpr ⟨rf_okU_88, List.forall_mem_cons.mpr ⟨rf_okU_89, List.forall_mem_cons.mpr ⟨rf_okU_90, List.forall_mem_cons.mpr ⟨rf_okU_91, List.forall_mem_cons.mpr ⟨rf_okU_92, List.forall_mem_cons.mpr ⟨rf_okU_93, List.forall_mem_cons.mpr ⟨rf_okU_94, fun _ h => absurd h List.not_mem_nil⟩⟩⟩⟩⟩⟩⟩⟩⟩⟩⟩
