set_option maxRecDepth 100000 in
theorem rf_okU_25 : rf_okU 25 = true := by decide +kernel
set_option maxRecDepth 100000 in
theorem rf_okU_26 : rf_okU 26 = true := by decide +kernel
set_option maxRecDepth 100000 in
theorem rf_okU_27 : rf_okU 27 = true := by decide +kernel
set_option maxRecDepth 100000 in
theorem rf_okU_28 : rf_okU 28 = true := by decide +kernel
set_option maxRecDepth 100000 in
theorem rf_okU_29 : rf_okU 29 = true := by decide +kernel
set_option maxRecDepth 100000 in
theorem rf_okU_30 : rf_okU 30 = true := by decide +kernel
set_option maxRecDepth 100000 in
theorem rf_okU_31 : rf_okU 31 = true := by decide +kernel
set_option maxRecDepth 100000 in
theorem rf_okU_32 : rf_okU 32 = true := by decide +kernel
set_option maxRecDepth 100000 in
theorem rf_okU_33 : rf_okU 33 = true := by decide +kernel
set_option maxRecDepth 100000 in
theorem rf_okU_34 : rf_okU 34 = true := by decide +kernel
set_option maxRecDepth 100000 in
theorem rf_okU_35 : rf_okU 35 = true := by decide +kernel
set_option maxRecDepth 100000 in
theorem rf_okU_36 : rf_okU 36 = true := by decide +kernel
set_option maxRecDepth 100000 in
theorem rf_okU_37 : rf_okU 37 = true := by decide +kernel
set_option maxRecDepth 100000 in
theorem rf_okU_38 : rf_okU 38 = true := by decide +kernel
set_option maxRecDepth 100000 in
theorem rf_okU_39 : rf_okU 39 = true := by decide +kernel
set_option maxRecDepth 100000 in
theorem rf_okU_40 : rf_okU 40 = true := by decide +kernel
set_option maxRecDepth 100000 in
theorem rf_okU_41 : rf_okU 41 = true := by decide +kernel
theorem rf_okG_1 : ∀ u ∈ ([25, 26, 27, 28, 29, 30, 31, 32, 33, 34, 35, 36, 37, 38, 39, 40, 41] : List Nat), rf_okU u = true := List.forall_mem_cons.mpr ⟨rf_okU_25, List.forall_mem_cons.mpr ⟨rf_okU_26, List.forall_mem_cons.mpr ⟨rf_okU_27, List.forall_mem_cons.mpr ⟨rf_okU_28, List.forall_mem_cons.mpr ⟨rf_okU_29, List.forall_mem_cons.mpr ⟨rf_okU_30, List.forall_mem_cons.mpr ⟨rf_okU_31, List.forall_mem_cons.mpr ⟨rf_okU_32, List.forall_mem_cons.mpr ⟨rf_okU_33, List.forall_mem_cons.mpr ⟨rf_okU_34, List.forall_mem_cons.mpr ⟨rf_okU_35, List.forall_mem_cons.mpr ⟨rf_okU_36, List.forall_mem_cons.mpr ⟨rf_okU_37, List.forall_mem_cons.mpr ⟨rf_okU_38, List.forall_mem_cons.mpr ⟨rf_okU_39, List.forall_mem_cons.mpr ⟨rf_okU_40, List.forall_mem_cons.mpr ⟨rf_okU_41, fun _ h => absurd h List.not_mem_nil⟩⟩⟩⟩⟩⟩⟩⟩⟩⟩⟩⟩⟩⟩⟩⟩⟩
