def rf_okU (u : Nat) : Bool := plainFor (rf_mt u).1 && ((rf_mt u).2.2.2.2.1).all (rf_okE (rf_mt u))
set_option maxRecDepth 100000 in
theorem rf_okU_0 : rf_okU 0 = true := by decide +kernel
set_option maxRecDepth 100000 in
theorem rf_okU_1 : rf_okU 1 = true := by decide +kernel
set_option maxRecDepth 100000 in
theorem rf_okU_2 : rf_okU 2 = true := by decide +kernel
set_option maxRecDepth 100000 in
theorem rf_okU_3 : rf_okU 3 = true := by decide +kernel
set_option maxRecDepth 100000 in
theorem rf_okU_4 : rf_okU 4 = true := by decide +kernel
set_option maxRecDepth 100000 in
theorem rf_okU_5 : rf_okU 5 = true := by decide +kernel
set_option maxRecDepth 100000 in
theorem rf_okU_6 : rf_okU 6 = true := by decide +kernel
set_option maxRecDepth 100000 in
theorem rf_okU_7 : rf_okU 7 = true := by decide +kernel
set_option maxRecDepth 100000 in
theorem rf_okU_8 : rf_okU 8 = true := by decide +kernel
set_option maxRecDepth 100000 in
theorem rf_okU_10 : rf_okU 10 = true := by decide +kernel
set_option maxRecDepth 100000 in
theorem rf_okU_11 : rf_okU 11 = true := by decide +kernel
set_option maxRecDepth 100000 in
theorem rf_okU_12 : rf_okU 12 = true := by decide +kernel
set_option maxRecDepth 100000 in
theorem rf_okU_13 : rf_okU 13 = true := by decide +kernel
set_option maxRecDepth 100000 in
theorem rf_okU_14 : rf_okU 14 = true := by decide +kernel
set_option maxRecDepth 100000 in
theorem rf_okU_15 : rf_okU 15 = true := by decide +kernel
set_option maxRecDepth 100000 in
theorem rf_okU_16 : rf_okU 16 = true := by decide +kernel
set_option maxRecDepth 100000 in
theorem rf_okU_17 : rf_okU 17 = true := by decide +kernel
set_option maxRecDepth 100000 in
theorem rf_okU_18 : rf_okU 18 = true := by decide +kernel
set_option maxRecDepth 100000 in
theorem rf_okU_19 : rf_okU 19 = true := by decide +kernel
set_option maxRecDepth 100000 in
theorem rf_okU_20 : rf_okU 20 = true := by decide +kernel
set_option maxRecDepth 100000 in
theorem rf_okU_21 : rf_okU 21 = true := by decide +kernel
set_option maxRecDepth 100000 in
theorem rf_okU_22 : rf_okU 22 = true := by decide +kernel
set_option maxRecDepth 100000 in
theorem rf_okU_23 : rf_okU 23 = true := by decide +kernel
set_option maxRecDepth 100000 in
theorem rf_okU_24 : rf_okU 24 = true := by decide +kernel
theorem rf_okG_0 : ∀ u ∈ ([0, 1, 2, 3, 4, 5, 6, 7, 8, 10, 11, 12, 13, 14, 15, 16, 17, 18, 19, 20, 21, 22, 23, 24] : List Nat), rf_okU u = true := List.forall_mem_cons.mpr ⟨rf_okU_0, List.forall_mem_cons.mpr ⟨rf_okU_1, List.forall_mem_cons.mpr ⟨rf_okU_2, List.forall_mem_cons.mpr ⟨rf_okU_3, List.forall_mem_cons.mpr ⟨rf_okU_4, List.forall_mem_cons.mpr ⟨rf_okU_5, List.forall_mem_cons.mpr ⟨rf_okU_6, List.forall_mem_cons.mpr ⟨rf_okU_7, List.forall_mem_cons.mpr ⟨rf_okU_8, List.forall_mem_cons.mpr ⟨rf_okU_10, List.forall_mem_cons.mpr ⟨rf_okU_11, List.forall_mem_cons.mpr ⟨rf_okU_12, List.forall_mem_cons.mpr ⟨rf_okU_13, List.forall_mem_cons.mpr ⟨rf_okU_14, List.forall_mem_cons.mpr ⟨rf_okU_15, List.forall_mem_cons.mpr ⟨rf_okU_16, List.forall_mem_cons.mpr ⟨rf_okU_17, List.forall_mem_cons.mpr ⟨rf_okU_18, List.forall_mem_cons.mpr ⟨rf_okU_19, List.forall_mem_cons.mpr ⟨rf_okU_20, List.forall_mem_cons.mpr ⟨rf_okU_21, List.forall_mem_cons.mpr ⟨rf_okU_22, List.forall_mem_cons.mpr ⟨rf_okU_23, List.forall_mem_cons.mpr ⟨rf_okU_24, fun _ h => absurd h List.not_mem_nil⟩⟩⟩⟩⟩⟩⟩⟩⟩⟩⟩⟩⟩⟩⟩⟩⟩⟩⟩⟩⟩⟩⟩⟩
