theorem rf_okU_all : ∀ u ∈ rf_lvL, rf_okU u = true := by
  rw [show rf_lvL = [0, 1, 2, 3, 4, 5, 6, 7, 8, 10, 11, 12, 13, 14, 15, 16, 17, 18, 19, 20, 21, 22, 23, 24] ++ ([25, 26, 27, 28, 29, 30, 31, 32, 33, 34, 35, 36, 37, 38, 39, 40, 41] ++ ([42, 43, 44, 45, 46, 47, 48, 49, 50, 51, 52, 53, 54] ++ ([55, 56, 57, 58, 59, 60, 61, 65, 66, 67, 68, 69, 70, 74, 75, 76, 77, 78, 79, 80, 81] ++ ([82, 84, 85, 87, 88, 89, 90, 91, 92, 93, 94] ++ ([95, 96, 97, 98, 99, 100, 101, 102, 103, 105, 106, 107, 108, 109, 110, 115, 116, 117, 118] ++ (([119, 120, 121, 122, 123, 124, 125, 126, 127, 128, 129, 130, 131, 132] : List Nat))))))) from rfl]
  exact List.forall_mem_append.mpr ⟨rf_okG_0, List.forall_mem_append.mpr ⟨rf_okG_1, List.forall_mem_append.mpr ⟨rf_okG_2, List.forall_mem_append.mpr ⟨rf_okG_3, List.forall_mem_append.mpr ⟨rf_okG_4, List.forall_mem_append.mpr ⟨rf_okG_5, rf_okG_6⟩⟩⟩⟩⟩⟩
theorem rf_okA (u : Nat) (hu : rf_lv u = true) : plainFor (rf_mt u).1 = true ∧ ∀ q ∈ (rf_mt u).2.2.2.2.1, rf_okE (rf_mt u) q = true := by
  have h := rf_okU_all u (rf_lv_mem hu)
  unfold rf_okU at h
  obtain ⟨h1, h2⟩ := Bool.and_eq_true_iff.mp h
  exact ⟨h1, List.all_eq_true.mp h2⟩
theorem rf_Cal_of (l : Launch) : ∀ d : Nat, rf_Cal l d (rf_call d)
  | 0 => fun u as h q hu hc => by cases hc
  | d + 1 => fun u as h q hu hc hok hh => by
    have hc : (bif Nat.ble (rf_args as).length (rf_mt u).2.2.1 then rf_den (rf_call d) (rf_mt u) (0, rf_msk (rf_look (rf_mt u).2.2.2.2.2 0) (rf_fill (rf_mt u).2.2.1 (rf_args as)), [], h) else none) = some q := hc
    obtain ⟨h1, h2⟩ := rf_bif_inv hc
    obtain ⟨n, hn⟩ := rf_den_ex h2
    have hA := rf_okA u hu
    exact rf_con_of hA.1 (Nat.le_of_ble_eq_true h1) hok hh _ (rf_exec_go (rf_Cal_of l d) hA.2 n _ hn)
