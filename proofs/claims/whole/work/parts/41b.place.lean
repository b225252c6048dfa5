/-! Places of rows and texts. -/
section RGS3
variable {X : rf_X} {D : rf_D}
theorem st_tear (hI : Inv D) (d : Nat) (r : Int) : Ag X D (d + 8) 62 123 [.inl r] := by
  unfold Ag
  have h6 := hI.2.2.1.2.1
  by_cases hr : 0 ≤ r ∧ r < 6
  · obtain ⟨R, rfl⟩ := Int.eq_ofNat_of_zero_le hr.1
    have hR : R < 6 := by omega
    have row := rg_rowN (X := X) (D := D) hR
    obtain ⟨q1, q2, q3, q4⟩ := hI.1 R hR
    have xw : rf_w (D (44 + 2 * R) 1 - 1) = D (44 + 2 * R) 1 - 1 := rg_w (by omega) (by omega)
    by_cases z : D (44 + 2 * R) 1 < 0
    · refine ⟨-3, wfd 1 D, mfd 1 (wfd 1 D), ?_, ?_, hI.fd (by decide) (by decide)⟩
      · rw [rf_e_W_tear]
        try simp only [rg_gR_0_0, Int.reduceToNat, rg_kIs, rg_kLs, rg_kRs, rg_kVs, rg_nns, rg_bs, cond_true, cond_false]
        rw [rg_W_pick_y (n := 6) (d + 6) (rg_aL_1 X D) hr row.2]
        try simp only [rg_hp1, rg_o_0, rg_row_o row.1, rg_nzs, Int.reduceToNat, rg_kIs, rg_kLs, rg_kRs, rg_kVs, rg_nns, rg_bs, cond_true, cond_false]
        rw [rg_R_isThere row.1]
        try simp only [Int.reduceToNat, rg_kIs, rg_kLs, rg_kRs, rg_kVs, rg_nns, rg_bs, cond_true, cond_false]
        rw [if_pos z, if_pos (by decide)]
        try simp only [rg_hp1, rg_o_0, Int.reduceToNat, rg_kIs, rg_kLs, rg_kRs, rg_kVs, rg_nns, rg_bs, cond_true, cond_false]
        rw [rg_W_found (d + 4) (by decide) (by decide) h6]
        try simp only [Int.reduceToNat, rg_kIs, rg_kLs, rg_kRs, rg_kVs, rg_nns, rg_bs, cond_true, cond_false]
      · rw [rf_e_M_tear, rg_M_isRow]
        try simp only [if_pos hr, Int.reduceToNat, rg_kIs, rg_kLs, rg_kRs, rg_kVs, rg_nns, rg_bs, cond_true, cond_false]
        rw [if_neg (by decide)]
        try simp only [rg_gR_77_0, Int.reduceToNat, rg_kIs, rg_kLs, rg_kRs, rg_kVs, rg_nns, rg_bs, cond_true, cond_false]
        rw [rg_aI_78 (by omega) (by omega)]
        try simp only [Int.reduceToNat, rg_kIs, rg_kLs, rg_kRs, rg_kVs, rg_nns, rg_bs, cond_true, cond_false]
        rw [rg_tN, wfd_n (by decide) (by decide), q1, if_pos z]
        try simp only [rg_hp1, rg_o_77, Int.reduceToNat, rg_kIs, rg_kLs, rg_kRs, rg_kVs, rg_nns, rg_bs, cond_true, cond_false]
        rw [rg_M_finds (d + 6) (by decide) (by decide)]
        try simp only [Int.reduceToNat, rg_kIs, rg_kLs, rg_kRs, rg_kVs, rg_nns, rg_bs, cond_true, cond_false]
    · refine ⟨1, rg_up D (44 + 2 * R) (rg_ui (D (44 + 2 * R)) 1 (-1)), rg_up (rg_up D (44 + 2 * R) (rg_ui (D (44 + 2 * R)) 1 (-1))) 78 (rg_ui (D 78) R (-1)), ?_, ?_, ?_⟩
      · rw [rf_e_W_tear]
        try simp only [rg_gR_0_0, Int.reduceToNat, rg_kIs, rg_kLs, rg_kRs, rg_kVs, rg_nns, rg_bs, cond_true, cond_false]
        rw [rg_W_pick_y (n := 6) (d + 6) (rg_aL_1 X D) hr row.2]
        try simp only [rg_hp1, rg_o_0, rg_row_o row.1, rg_nzs, Int.reduceToNat, rg_kIs, rg_kLs, rg_kRs, rg_kVs, rg_nns, rg_bs, cond_true, cond_false]
        rw [rg_R_isThere row.1]
        try simp only [Int.reduceToNat, rg_kIs, rg_kLs, rg_kRs, rg_kVs, rg_nns, rg_bs, cond_true, cond_false]
        rw [if_neg z, if_neg (by decide)]
        try simp only [rg_hp1, rg_row_o row.1, Int.reduceToNat, rg_kIs, rg_kLs, rg_kRs, rg_kVs, rg_nns, rg_bs, cond_true, cond_false]
        rw [rg_R_goMissing row.1]
        try simp only [Int.reduceToNat, rg_kIs, rg_kLs, rg_kRs, rg_kVs, rg_nns, rg_bs, cond_true, cond_false]
      · rw [rf_e_M_tear, rg_M_isRow]
        try simp only [if_pos hr, Int.reduceToNat, rg_kIs, rg_kLs, rg_kRs, rg_kVs, rg_nns, rg_bs, cond_true, cond_false]
        rw [if_neg (by decide)]
        try simp only [rg_gR_77_0, Int.reduceToNat, rg_kIs, rg_kLs, rg_kRs, rg_kVs, rg_nns, rg_bs, cond_true, cond_false]
        rw [rg_aI_78 (by omega) (by omega)]
        try simp only [Int.reduceToNat, rg_kIs, rg_kLs, rg_kRs, rg_kVs, rg_nns, rg_bs, cond_true, cond_false]
        rw [rg_tN, rg_up_n (by omega), q1, if_neg z]
        try simp only [rg_gR_77_0, Int.reduceToNat, rg_kIs, rg_kLs, rg_kRs, rg_kVs, rg_nns, rg_bs, cond_true, cond_false]
        rw [rg_sI_78 (by omega) (by omega)]
        try simp only [Int.reduceToNat, rg_kIs, rg_kLs, rg_kRs, rg_kVs, rg_nns, rg_bs, cond_true, cond_false]
        rw [rg_tN, rg_up_n (k := 44 + 2 * R) (a := 78) (by omega)]
      · refine hI.rowchg hR (fun a z1 z2 z3 z4 => ?_) (fun q z => ?_) (fun k z => ?_) ?_
        · rw [rg_up_n z3, rg_up_n z1]
        · rw [rg_up_s, rg_ui_n z]
        · rw [rg_up_n (by decide), rg_up_n (by omega)]
        · rw [rg_up_s, rg_ui_s, rg_up_n (show 44 + 2 * R ≠ 78 by omega), rg_up_s, rg_ui_s]
          exact ⟨rfl, by decide, by decide, fun j hj => absurd hj (by omega)⟩
  · refine ⟨-1, D, D, ?_, ?_, hI⟩
    · rw [rf_e_W_tear]
      try simp only [rg_gR_0_0, Int.reduceToNat, rg_kIs, rg_kLs, rg_kRs, rg_kVs, rg_nns, rg_bs, cond_true, cond_false]
      rw [rg_W_pick_n (n := 6) (d + 6) (rg_aL_1 X D) hr]
      try simp only [rg_hp1, rg_o_0, rg_nzn, Int.reduceToNat, rg_kIs, rg_kLs, rg_kRs, rg_kVs, rg_nns, rg_bs, cond_true, cond_false]
    · rw [rf_e_M_tear, rg_M_isRow]
      try simp only [if_neg hr, Int.reduceToNat, rg_kIs, rg_kLs, rg_kRs, rg_kVs, rg_nns, rg_bs, cond_true, cond_false]
      rw [if_pos (by decide)]
theorem st_at (hI : Inv D) (d : Nat) (r i : Int) : Ag X D (d + 8) 61 122 [.inl r, .inl i] := by
  unfold Ag
  have h6 := hI.2.2.1.2.1
  by_cases hr : 0 ≤ r ∧ r < 6
  · obtain ⟨R, rfl⟩ := Int.eq_ofNat_of_zero_le hr.1
    have hR : R < 6 := by omega
    have row := rg_rowN (X := X) (D := D) hR
    obtain ⟨q1, q2, q3, q4⟩ := hI.1 R hR
    have xw : rf_w (D (44 + 2 * R) 1 - 1) = D (44 + 2 * R) 1 - 1 := rg_w (by omega) (by omega)
    by_cases z : D (44 + 2 * R) 1 < 0
    · refine ⟨-3, wfd 1 D, mfd 1 (wfd 1 D), ?_, ?_, hI.fd (by decide) (by decide)⟩
      · rw [rf_e_W_at]
        try simp only [rg_gR_0_0, Int.reduceToNat, rg_kIs, rg_kLs, rg_kRs, rg_kVs, rg_nns, rg_bs, cond_true, cond_false]
        rw [rg_W_pick_y (n := 6) (d + 6) (rg_aL_1 X D) hr row.2]
        try simp only [rg_hp1, rg_o_0, rg_row_o row.1, rg_nzs, Int.reduceToNat, rg_kIs, rg_kLs, rg_kRs, rg_kVs, rg_nns, rg_bs, cond_true, cond_false]
        rw [rg_W_refP row.1 (d + 3) h6 (by omega) i]
        try simp only [if_pos z, Int.reduceToNat, rg_kIs, rg_kLs, rg_kRs, rg_kVs, rg_nns, rg_bs, cond_true, cond_false]
        rw [if_neg (by decide)]
      · rw [rf_e_M_at, rg_M_isRow]
        try simp only [if_pos hr, Int.reduceToNat, rg_kIs, rg_kLs, rg_kRs, rg_kVs, rg_nns, rg_bs, cond_true, cond_false]
        rw [if_neg (by decide)]
        try simp only [rg_gR_77_0, Int.reduceToNat, rg_kIs, rg_kLs, rg_kRs, rg_kVs, rg_nns, rg_bs, cond_true, cond_false]
        rw [rg_aI_78 (by omega) (by omega)]
        try simp only [Int.reduceToNat, rg_kIs, rg_kLs, rg_kRs, rg_kVs, rg_nns, rg_bs, cond_true, cond_false]
        rw [rg_tN, wfd_n (by decide) (by decide), q1, if_pos z]
        try simp only [rg_hp1, rg_o_77, Int.reduceToNat, rg_kIs, rg_kLs, rg_kRs, rg_kVs, rg_nns, rg_bs, cond_true, cond_false]
        rw [rg_M_finds (d + 6) (by decide) (by decide)]
        try simp only [Int.reduceToNat, rg_kIs, rg_kLs, rg_kRs, rg_kVs, rg_nns, rg_bs, cond_true, cond_false]
    · by_cases hi : 0 ≤ i ∧ i < D (44 + 2 * R) 1
      · obtain ⟨I, rfl⟩ := Int.eq_ofNat_of_zero_le hi.1
        have x1 : rf_w (rf_w (40 * (R : Int)) + (I : Int)) = ((40 * R + I : Nat) : Int) := by
          rw [rg_w (z := 40 * (R : Int)) (by omega) (by omega), rg_w (by omega) (by omega)]
          omega
        have q5 := q4 I hi.2
        refine ⟨1, wtl (D (44 + 2 * R + 1) I) D, mtl (D (44 + 2 * R + 1) I) (wtl (D (44 + 2 * R + 1) I) D), ?_, ?_, hI.tl _⟩
        · rw [rf_e_W_at]
          try simp only [rg_gR_0_0, Int.reduceToNat, rg_kIs, rg_kLs, rg_kRs, rg_kVs, rg_nns, rg_bs, cond_true, cond_false]
          rw [rg_W_pick_y (n := 6) (d + 6) (rg_aL_1 X D) hr row.2]
          try simp only [rg_hp1, rg_o_0, rg_row_o row.1, rg_nzs, Int.reduceToNat, rg_kIs, rg_kLs, rg_kRs, rg_kVs, rg_nns, rg_bs, cond_true, cond_false]
          rw [rg_W_refP row.1 (d + 3) h6 (by omega) (I : Int)]
          try simp only [if_neg z, if_pos hi, Int.reduceToNat, rg_kIs, rg_kLs, rg_kRs, rg_kVs, rg_nns, rg_bs, cond_true, cond_false]
          rw [if_pos (by decide)]
          try simp only [rg_hp1, rg_row_o row.1, Int.reduceToNat, rg_kIs, rg_kLs, rg_kRs, rg_kVs, rg_nns, rg_bs, cond_true, cond_false]
          rw [rg_R_cellI row.1 (d + 6) hi.1 hi.2 (by omega)]
          try simp only [rg_hp1, rg_o_0, rg_row_o row.1, Int.reduceToNat, rg_kIs, rg_kLs, rg_kRs, rg_kVs, rg_nns, rg_bs, cond_true, cond_false]
          rw [rg_W_tell, rg_tN]
          try simp only [Int.reduceToNat, rg_kIs, rg_kLs, rg_kRs, rg_kVs, rg_nns, rg_bs, cond_true, cond_false]
        · rw [rf_e_M_at, rg_M_isRow]
          try simp only [if_pos hr, Int.reduceToNat, rg_kIs, rg_kLs, rg_kRs, rg_kVs, rg_nns, rg_bs, cond_true, cond_false]
          rw [if_neg (by decide)]
          try simp only [rg_gR_77_0, Int.reduceToNat, rg_kIs, rg_kLs, rg_kRs, rg_kVs, rg_nns, rg_bs, cond_true, cond_false]
          rw [rg_aI_78 (by omega) (by omega)]
          try simp only [Int.reduceToNat, rg_kIs, rg_kLs, rg_kRs, rg_kVs, rg_nns, rg_bs, cond_true, cond_false]
          rw [rg_tN, wtl_n (by decide), q1, if_neg z]
          try simp only [rg_gR_77_0, Int.reduceToNat, rg_kIs, rg_kLs, rg_kRs, rg_kVs, rg_nns, rg_bs, cond_true, cond_false]
          rw [xw, rg_M_in]
          try simp only [Int.reduceToNat, rg_kIs, rg_kLs, rg_kRs, rg_kVs, rg_nns, rg_bs, cond_true, cond_false]
          rw [if_pos (show 0 ≤ (I : Int) ∧ (I : Int) ≤ D (44 + 2 * R) 1 - 1 by omega), if_neg (by decide)]
          try simp only [rg_gR_77_1, Int.reduceToNat, rg_kIs, rg_kLs, rg_kRs, rg_kVs, rg_nns, rg_bs, cond_true, cond_false, x1]
          rw [rg_aI_79 (by omega) (by omega)]
          try simp only [rg_hp1, rg_o_77, Int.reduceToNat, rg_kIs, rg_kLs, rg_kRs, rg_kVs, rg_nns, rg_bs, cond_true, cond_false]
          rw [rg_tN, wtl_n (by decide), q5.1, rg_M_tells]
          try simp only [Int.reduceToNat, rg_kIs, rg_kLs, rg_kRs, rg_kVs, rg_nns, rg_bs, cond_true, cond_false]
      · refine ⟨-3, wfd 2 D, mfd 2 (wfd 2 D), ?_, ?_, hI.fd (by decide) (by decide)⟩
        · rw [rf_e_W_at]
          try simp only [rg_gR_0_0, Int.reduceToNat, rg_kIs, rg_kLs, rg_kRs, rg_kVs, rg_nns, rg_bs, cond_true, cond_false]
          rw [rg_W_pick_y (n := 6) (d + 6) (rg_aL_1 X D) hr row.2]
          try simp only [rg_hp1, rg_o_0, rg_row_o row.1, rg_nzs, Int.reduceToNat, rg_kIs, rg_kLs, rg_kRs, rg_kVs, rg_nns, rg_bs, cond_true, cond_false]
          rw [rg_W_refP row.1 (d + 3) h6 (by omega) i]
          try simp only [if_neg z, if_neg hi, Int.reduceToNat, rg_kIs, rg_kLs, rg_kRs, rg_kVs, rg_nns, rg_bs, cond_true, cond_false]
          rw [if_neg (by decide)]
        · rw [rf_e_M_at, rg_M_isRow]
          try simp only [if_pos hr, Int.reduceToNat, rg_kIs, rg_kLs, rg_kRs, rg_kVs, rg_nns, rg_bs, cond_true, cond_false]
          rw [if_neg (by decide)]
          try simp only [rg_gR_77_0, Int.reduceToNat, rg_kIs, rg_kLs, rg_kRs, rg_kVs, rg_nns, rg_bs, cond_true, cond_false]
          rw [rg_aI_78 (by omega) (by omega)]
          try simp only [Int.reduceToNat, rg_kIs, rg_kLs, rg_kRs, rg_kVs, rg_nns, rg_bs, cond_true, cond_false]
          rw [rg_tN, wfd_n (by decide) (by decide), q1, if_neg z]
          try simp only [rg_gR_77_0, Int.reduceToNat, rg_kIs, rg_kLs, rg_kRs, rg_kVs, rg_nns, rg_bs, cond_true, cond_false]
          rw [xw, rg_M_in]
          try simp only [Int.reduceToNat, rg_kIs, rg_kLs, rg_kRs, rg_kVs, rg_nns, rg_bs, cond_true, cond_false]
          rw [if_neg (show ¬ (0 ≤ i ∧ i ≤ D (44 + 2 * R) 1 - 1) by omega), if_pos (by decide)]
          try simp only [rg_hp1, rg_o_77, Int.reduceToNat, rg_kIs, rg_kLs, rg_kRs, rg_kVs, rg_nns, rg_bs, cond_true, cond_false]
          rw [rg_M_finds (d + 6) (by decide) (by decide)]
          try simp only [Int.reduceToNat, rg_kIs, rg_kLs, rg_kRs, rg_kVs, rg_nns, rg_bs, cond_true, cond_false]
  · refine ⟨-1, D, D, ?_, ?_, hI⟩
    · rw [rf_e_W_at]
      try simp only [rg_gR_0_0, Int.reduceToNat, rg_kIs, rg_kLs, rg_kRs, rg_kVs, rg_nns, rg_bs, cond_true, cond_false]
      rw [rg_W_pick_n (n := 6) (d + 6) (rg_aL_1 X D) hr]
      try simp only [rg_hp1, rg_o_0, rg_nzn, Int.reduceToNat, rg_kIs, rg_kLs, rg_kRs, rg_kVs, rg_nns, rg_bs, cond_true, cond_false]
    · rw [rf_e_M_at, rg_M_isRow]
      try simp only [if_neg hr, Int.reduceToNat, rg_kIs, rg_kLs, rg_kRs, rg_kVs, rg_nns, rg_bs, cond_true, cond_false]
      rw [if_pos (by decide)]
theorem st_lay (hI : Inv D) (d : Nat) (r i v : Int) : Ag X D (d + 8) 58 120 [.inl r, .inl i, .inl v] := by
  unfold Ag
  have h6 := hI.2.2.1.2.1
  by_cases hr : 0 ≤ r ∧ r < 6
  · obtain ⟨R, rfl⟩ := Int.eq_ofNat_of_zero_le hr.1
    have hR : R < 6 := by omega
    have row := rg_rowN (X := X) (D := D) hR
    obtain ⟨q1, q2, q3, q4⟩ := hI.1 R hR
    have xw : rf_w (D (44 + 2 * R) 1 - 1) = D (44 + 2 * R) 1 - 1 := rg_w (by omega) (by omega)
    by_cases z : D (44 + 2 * R) 1 < 0
    · refine ⟨-3, wfd 1 D, mfd 1 (wfd 1 D), ?_, ?_, hI.fd (by decide) (by decide)⟩
      · rw [rf_e_W_lay]
        try simp only [rg_gR_0_0, Int.reduceToNat, rg_kIs, rg_kLs, rg_kRs, rg_kVs, rg_nns, rg_bs, cond_true, cond_false]
        rw [rg_W_pick_y (n := 6) (d + 6) (rg_aL_1 X D) hr row.2]
        try simp only [rg_hp1, rg_o_0, rg_row_o row.1, rg_nzs, Int.reduceToNat, rg_kIs, rg_kLs, rg_kRs, rg_kVs, rg_nns, rg_bs, cond_true, cond_false]
        rw [rg_W_refP row.1 (d + 3) h6 (by omega) i]
        try simp only [if_pos z, Int.reduceToNat, rg_kIs, rg_kLs, rg_kRs, rg_kVs, rg_nns, rg_bs, cond_true, cond_false]
        rw [if_neg (by decide)]
      · rw [rf_e_M_lay, rg_M_isRow]
        try simp only [if_pos hr, Int.reduceToNat, rg_kIs, rg_kLs, rg_kRs, rg_kVs, rg_nns, rg_bs, cond_true, cond_false]
        rw [if_neg (by decide)]
        try simp only [rg_gR_77_0, Int.reduceToNat, rg_kIs, rg_kLs, rg_kRs, rg_kVs, rg_nns, rg_bs, cond_true, cond_false]
        rw [rg_aI_78 (by omega) (by omega)]
        try simp only [Int.reduceToNat, rg_kIs, rg_kLs, rg_kRs, rg_kVs, rg_nns, rg_bs, cond_true, cond_false]
        rw [rg_tN, wfd_n (by decide) (by decide), q1, if_pos z]
        try simp only [rg_hp1, rg_o_77, Int.reduceToNat, rg_kIs, rg_kLs, rg_kRs, rg_kVs, rg_nns, rg_bs, cond_true, cond_false]
        rw [rg_M_finds (d + 6) (by decide) (by decide)]
        try simp only [Int.reduceToNat, rg_kIs, rg_kLs, rg_kRs, rg_kVs, rg_nns, rg_bs, cond_true, cond_false]
    · by_cases hi : 0 ≤ i ∧ i < D (44 + 2 * R) 1
      · obtain ⟨I, rfl⟩ := Int.eq_ofNat_of_zero_le hi.1
        have x1 : rf_w (rf_w (40 * (R : Int)) + (I : Int)) = ((40 * R + I : Nat) : Int) := by
          rw [rg_w (z := 40 * (R : Int)) (by omega) (by omega), rg_w (by omega) (by omega)]
          omega
        have q5 := q4 I hi.2
        have hI2 := (hI.rowchg hR (D' := rg_up (rg_up D (44 + 2 * R + 1) (rg_ui (D (44 + 2 * R + 1)) I v)) 79 (rg_ui (D 79) (40 * R + I) v)) (fun a z1 z2 z3 z4 => by rw [rg_up_n z4, rg_up_n z2]) (fun q _ => by rw [rg_up_n (show (78 : Nat) ≠ 79 by decide), rg_up_n (show (78 : Nat) ≠ 44 + 2 * R + 1 by omega)]) (fun k zk => by rw [rg_up_s, rg_ui_n (by omega)]) (by
            rw [rg_up_n (show (78 : Nat) ≠ 79 by decide), rg_up_n (show (78 : Nat) ≠ 44 + 2 * R + 1 by omega), rg_up_s, rg_up_n (show 44 + 2 * R ≠ 79 by omega), rg_up_n (show 44 + 2 * R ≠ 44 + 2 * R + 1 by omega), rg_up_n (show 44 + 2 * R + 1 ≠ 79 by omega), rg_up_s]
            refine ⟨q1, q2, q3, fun j hj => ?_⟩
            by_cases e : j = I
            · rw [e, rg_ui_s, rg_ui_s]
              exact ⟨rfl, fun h => h.elim⟩
            · rw [rg_ui_n (show 40 * R + j ≠ 40 * R + I by omega), rg_ui_n e]
              exact q4 j hj))
        refine ⟨1, wtl (D (44 + 2 * R + 1) I) (rg_up D (44 + 2 * R + 1) (rg_ui (D (44 + 2 * R + 1)) I v)), mtl (D (44 + 2 * R + 1) I) (wtl (D (44 + 2 * R + 1) I) (rg_up (rg_up D (44 + 2 * R + 1) (rg_ui (D (44 + 2 * R + 1)) I v)) 79 (rg_ui (D 79) (40 * R + I) v))), ?_, ?_, hI2.tl _⟩
        · rw [rf_e_W_lay]
          try simp only [rg_gR_0_0, Int.reduceToNat, rg_kIs, rg_kLs, rg_kRs, rg_kVs, rg_nns, rg_bs, cond_true, cond_false]
          rw [rg_W_pick_y (n := 6) (d + 6) (rg_aL_1 X D) hr row.2]
          try simp only [rg_hp1, rg_o_0, rg_row_o row.1, rg_nzs, Int.reduceToNat, rg_kIs, rg_kLs, rg_kRs, rg_kVs, rg_nns, rg_bs, cond_true, cond_false]
          rw [rg_W_refP row.1 (d + 3) h6 (by omega) (I : Int)]
          try simp only [if_neg z, if_pos hi, Int.reduceToNat, rg_kIs, rg_kLs, rg_kRs, rg_kVs, rg_nns, rg_bs, cond_true, cond_false]
          rw [if_pos (by decide)]
          try simp only [rg_hp1, rg_row_o row.1, Int.reduceToNat, rg_kIs, rg_kLs, rg_kRs, rg_kVs, rg_nns, rg_bs, cond_true, cond_false]
          rw [rg_R_cellI row.1 (d + 6) hi.1 hi.2 (by omega)]
          try simp only [rg_hp1, rg_o_0, rg_row_o row.1, Int.reduceToNat, rg_kIs, rg_kLs, rg_kRs, rg_kVs, rg_nns, rg_bs, cond_true, cond_false]
          rw [rg_R_setI row.1 (d + 5) hi.1 hi.2 (by omega)]
          try simp only [rg_hp1, rg_o_0, Int.reduceToNat, rg_kIs, rg_kLs, rg_kRs, rg_kVs, rg_nns, rg_bs, cond_true, cond_false]
          rw [rg_W_tell, rg_tN]
          try simp only [Int.reduceToNat, rg_kIs, rg_kLs, rg_kRs, rg_kVs, rg_nns, rg_bs, cond_true, cond_false]
        · rw [rf_e_M_lay, rg_M_isRow]
          try simp only [if_pos hr, Int.reduceToNat, rg_kIs, rg_kLs, rg_kRs, rg_kVs, rg_nns, rg_bs, cond_true, cond_false]
          rw [if_neg (by decide)]
          try simp only [rg_gR_77_0, Int.reduceToNat, rg_kIs, rg_kLs, rg_kRs, rg_kVs, rg_nns, rg_bs, cond_true, cond_false]
          rw [rg_aI_78 (by omega) (by omega)]
          try simp only [Int.reduceToNat, rg_kIs, rg_kLs, rg_kRs, rg_kVs, rg_nns, rg_bs, cond_true, cond_false]
          rw [rg_tN, wtl_n (by decide), rg_up_n (show (78 : Nat) ≠ 44 + 2 * R + 1 by omega), q1, if_neg z]
          try simp only [rg_gR_77_0, Int.reduceToNat, rg_kIs, rg_kLs, rg_kRs, rg_kVs, rg_nns, rg_bs, cond_true, cond_false]
          rw [xw, rg_M_in]
          try simp only [Int.reduceToNat, rg_kIs, rg_kLs, rg_kRs, rg_kVs, rg_nns, rg_bs, cond_true, cond_false]
          rw [if_pos (show 0 ≤ (I : Int) ∧ (I : Int) ≤ D (44 + 2 * R) 1 - 1 by omega), if_neg (by decide)]
          try simp only [rg_gR_77_1, Int.reduceToNat, rg_kIs, rg_kLs, rg_kRs, rg_kVs, rg_nns, rg_bs, cond_true, cond_false, x1]
          rw [rg_aI_79 (by omega) (by omega)]
          try simp only [rg_hp1, rg_o_77, Int.reduceToNat, rg_kIs, rg_kLs, rg_kRs, rg_kVs, rg_nns, rg_bs, cond_true, cond_false]
          rw [rg_sI_79 (by omega) (by omega)]
          try simp only [rg_gR_77_1, rg_hp1, rg_o_77, Int.reduceToNat, rg_kIs, rg_kLs, rg_kRs, rg_kVs, rg_nns, rg_bs, cond_true, cond_false]
          rw [rg_tN, wtl_n (show (79 : Nat) ≠ 0 by decide), rg_up_n (show (79 : Nat) ≠ 44 + 2 * R + 1 by omega), q5.1, rg_M_tells]
          try simp only [Int.reduceToNat, rg_kIs, rg_kLs, rg_kRs, rg_kVs, rg_nns, rg_bs, cond_true, cond_false]
          rw [rg_tl0 (by decide)]
      · refine ⟨-3, wfd 2 D, mfd 2 (wfd 2 D), ?_, ?_, hI.fd (by decide) (by decide)⟩
        · rw [rf_e_W_lay]
          try simp only [rg_gR_0_0, Int.reduceToNat, rg_kIs, rg_kLs, rg_kRs, rg_kVs, rg_nns, rg_bs, cond_true, cond_false]
          rw [rg_W_pick_y (n := 6) (d + 6) (rg_aL_1 X D) hr row.2]
          try simp only [rg_hp1, rg_o_0, rg_row_o row.1, rg_nzs, Int.reduceToNat, rg_kIs, rg_kLs, rg_kRs, rg_kVs, rg_nns, rg_bs, cond_true, cond_false]
          rw [rg_W_refP row.1 (d + 3) h6 (by omega) i]
          try simp only [if_neg z, if_neg hi, Int.reduceToNat, rg_kIs, rg_kLs, rg_kRs, rg_kVs, rg_nns, rg_bs, cond_true, cond_false]
          rw [if_neg (by decide)]
        · rw [rf_e_M_lay, rg_M_isRow]
          try simp only [if_pos hr, Int.reduceToNat, rg_kIs, rg_kLs, rg_kRs, rg_kVs, rg_nns, rg_bs, cond_true, cond_false]
          rw [if_neg (by decide)]
          try simp only [rg_gR_77_0, Int.reduceToNat, rg_kIs, rg_kLs, rg_kRs, rg_kVs, rg_nns, rg_bs, cond_true, cond_false]
          rw [rg_aI_78 (by omega) (by omega)]
          try simp only [Int.reduceToNat, rg_kIs, rg_kLs, rg_kRs, rg_kVs, rg_nns, rg_bs, cond_true, cond_false]
          rw [rg_tN, wfd_n (by decide) (by decide), q1, if_neg z]
          try simp only [rg_gR_77_0, Int.reduceToNat, rg_kIs, rg_kLs, rg_kRs, rg_kVs, rg_nns, rg_bs, cond_true, cond_false]
          rw [xw, rg_M_in]
          try simp only [Int.reduceToNat, rg_kIs, rg_kLs, rg_kRs, rg_kVs, rg_nns, rg_bs, cond_true, cond_false]
          rw [if_neg (show ¬ (0 ≤ i ∧ i ≤ D (44 + 2 * R) 1 - 1) by omega), if_pos (by decide)]
          try simp only [rg_hp1, rg_o_77, Int.reduceToNat, rg_kIs, rg_kLs, rg_kRs, rg_kVs, rg_nns, rg_bs, cond_true, cond_false]
          rw [rg_M_finds (d + 6) (by decide) (by decide)]
          try simp only [Int.reduceToNat, rg_kIs, rg_kLs, rg_kRs, rg_kVs, rg_nns, rg_bs, cond_true, cond_false]
  · refine ⟨-1, D, D, ?_, ?_, hI⟩
    · rw [rf_e_W_lay]
      try simp only [rg_gR_0_0, Int.reduceToNat, rg_kIs, rg_kLs, rg_kRs, rg_kVs, rg_nns, rg_bs, cond_true, cond_false]
      rw [rg_W_pick_n (n := 6) (d + 6) (rg_aL_1 X D) hr]
      try simp only [rg_hp1, rg_o_0, rg_nzn, Int.reduceToNat, rg_kIs, rg_kLs, rg_kRs, rg_kVs, rg_nns, rg_bs, cond_true, cond_false]
    · rw [rf_e_M_lay, rg_M_isRow]
      try simp only [if_neg hr, Int.reduceToNat, rg_kIs, rg_kLs, rg_kRs, rg_kVs, rg_nns, rg_bs, cond_true, cond_false]
      rw [if_pos (by decide)]
theorem st_put (hI : Inv D) (d : Nat) (r i v : Int) : Ag X D (d + 8) 66 128 [.inl r, .inl i, .inl v] := by
  unfold Ag
  have h6 := hI.2.2.1.2.1
  by_cases hr : 0 ≤ r ∧ r < 4
  · obtain ⟨R, rfl⟩ := Int.eq_ofNat_of_zero_le hr.1
    have hR : R < 4 := by omega
    have row := rg_textN (X := X) (D := D) hR
    obtain ⟨q1, q2, q3, q4⟩ := hI.2.1 R hR
    have xw : rf_w (D (56 + 2 * R) 1 - 1) = D (56 + 2 * R) 1 - 1 := rg_w (by omega) (by omega)
    by_cases z : D (56 + 2 * R) 1 < 0
    · refine ⟨-3, wfd 1 D, mfd 1 (wfd 1 D), ?_, ?_, hI.fd (by decide) (by decide)⟩
      · rw [rf_e_W_put]
        try simp only [rg_gR_0_1, Int.reduceToNat, rg_kIs, rg_kLs, rg_kRs, rg_kVs, rg_nns, rg_bs, cond_true, cond_false]
        rw [rg_W_pick_y (n := 4) (d + 6) (rg_aL_2 X D) hr row.2]
        try simp only [rg_hp1, rg_o_0, rg_row_o row.1, rg_nzs, Int.reduceToNat, rg_kIs, rg_kLs, rg_kRs, rg_kVs, rg_nns, rg_bs, cond_true, cond_false]
        rw [rg_W_refP row.1 (d + 3) h6 (by omega) i]
        try simp only [if_pos z, Int.reduceToNat, rg_kIs, rg_kLs, rg_kRs, rg_kVs, rg_nns, rg_bs, cond_true, cond_false]
        rw [if_neg (by decide)]
      · rw [rf_e_M_put, rg_M_isText]
        try simp only [if_pos hr, Int.reduceToNat, rg_kIs, rg_kLs, rg_kRs, rg_kVs, rg_nns, rg_bs, cond_true, cond_false]
        rw [if_neg (by decide)]
        try simp only [rg_gR_77_2, Int.reduceToNat, rg_kIs, rg_kLs, rg_kRs, rg_kVs, rg_nns, rg_bs, cond_true, cond_false]
        rw [rg_aI_80 (by omega) (by omega)]
        try simp only [Int.reduceToNat, rg_kIs, rg_kLs, rg_kRs, rg_kVs, rg_nns, rg_bs, cond_true, cond_false]
        rw [rg_tN, wfd_n (by decide) (by decide), q1, if_pos z]
        try simp only [rg_hp1, rg_o_77, Int.reduceToNat, rg_kIs, rg_kLs, rg_kRs, rg_kVs, rg_nns, rg_bs, cond_true, cond_false]
        rw [rg_M_finds (d + 6) (by decide) (by decide)]
        try simp only [Int.reduceToNat, rg_kIs, rg_kLs, rg_kRs, rg_kVs, rg_nns, rg_bs, cond_true, cond_false]
    · by_cases hi : 0 ≤ i ∧ i < D (56 + 2 * R) 1
      · obtain ⟨I, rfl⟩ := Int.eq_ofNat_of_zero_le hi.1
        have x1 : rf_w (rf_w (60 * (R : Int)) + (I : Int)) = ((60 * R + I : Nat) : Int) := by
          rw [rg_w (z := 60 * (R : Int)) (by omega) (by omega), rg_w (by omega) (by omega)]
          omega
        have q5 := q4 I hi.2
        have hI2 := (hI.textchg hR (D' := rg_up (rg_up D (56 + 2 * R + 1) (rg_ui (D (56 + 2 * R + 1)) I (rf_w8 v))) 81 (rg_ui (D 81) (60 * R + I) (rf_w8 v))) (fun a z1 z2 z3 z4 => by rw [rg_up_n z4, rg_up_n z2]) (fun q _ => by rw [rg_up_n (show (80 : Nat) ≠ 81 by decide), rg_up_n (show (80 : Nat) ≠ 56 + 2 * R + 1 by omega)]) (fun k zk => by rw [rg_up_s, rg_ui_n (by omega)]) (by
            rw [rg_up_n (show (80 : Nat) ≠ 81 by decide), rg_up_n (show (80 : Nat) ≠ 56 + 2 * R + 1 by omega), rg_up_s, rg_up_n (show 56 + 2 * R ≠ 81 by omega), rg_up_n (show 56 + 2 * R ≠ 56 + 2 * R + 1 by omega), rg_up_n (show 56 + 2 * R + 1 ≠ 81 by omega), rg_up_s]
            refine ⟨q1, q2, q3, fun j hj => ?_⟩
            by_cases e : j = I
            · rw [e, rg_ui_s, rg_ui_s]
              exact ⟨rfl, fun h => by unfold rf_w8; omega⟩
            · rw [rg_ui_n (show 60 * R + j ≠ 60 * R + I by omega), rg_ui_n e]
              exact q4 j hj))
        refine ⟨rf_w (D (56 + 2 * R + 1) I + 1000), rg_up D (56 + 2 * R + 1) (rg_ui (D (56 + 2 * R + 1)) I (rf_w8 v)), rg_up (rg_up D (56 + 2 * R + 1) (rg_ui (D (56 + 2 * R + 1)) I (rf_w8 v))) 81 (rg_ui (D 81) (60 * R + I) (rf_w8 v)), ?_, ?_, hI2⟩
        · rw [rf_e_W_put]
          try simp only [rg_gR_0_1, Int.reduceToNat, rg_kIs, rg_kLs, rg_kRs, rg_kVs, rg_nns, rg_bs, cond_true, cond_false]
          rw [rg_W_pick_y (n := 4) (d + 6) (rg_aL_2 X D) hr row.2]
          try simp only [rg_hp1, rg_o_0, rg_row_o row.1, rg_nzs, Int.reduceToNat, rg_kIs, rg_kLs, rg_kRs, rg_kVs, rg_nns, rg_bs, cond_true, cond_false]
          rw [rg_W_refP row.1 (d + 3) h6 (by omega) (I : Int)]
          try simp only [if_neg z, if_pos hi, Int.reduceToNat, rg_kIs, rg_kLs, rg_kRs, rg_kVs, rg_nns, rg_bs, cond_true, cond_false]
          rw [if_pos (by decide)]
          try simp only [rg_hp1, rg_row_o row.1, Int.reduceToNat, rg_kIs, rg_kLs, rg_kRs, rg_kVs, rg_nns, rg_bs, cond_true, cond_false]
          rw [rg_R_cellI row.1 (d + 6) hi.1 hi.2 (by omega)]
          try simp only [rg_hp1, rg_o_0, rg_row_o row.1, Int.reduceToNat, rg_kIs, rg_kLs, rg_kRs, rg_kVs, rg_nns, rg_bs, cond_true, cond_false]
          rw [rg_R_setI row.1 (d + 5) hi.1 hi.2 (by omega)]
          try simp only [rg_hp1, rg_o_0, Int.reduceToNat, rg_kIs, rg_kLs, rg_kRs, rg_kVs, rg_nns, rg_bs, cond_true, cond_false]
          rw [rg_tN]
        · rw [rf_e_M_put, rg_M_isText]
          try simp only [if_pos hr, Int.reduceToNat, rg_kIs, rg_kLs, rg_kRs, rg_kVs, rg_nns, rg_bs, cond_true, cond_false]
          rw [if_neg (by decide)]
          try simp only [rg_gR_77_2, Int.reduceToNat, rg_kIs, rg_kLs, rg_kRs, rg_kVs, rg_nns, rg_bs, cond_true, cond_false]
          rw [rg_aI_80 (by omega) (by omega)]
          try simp only [Int.reduceToNat, rg_kIs, rg_kLs, rg_kRs, rg_kVs, rg_nns, rg_bs, cond_true, cond_false]
          rw [rg_tN, rg_up_n (show (80 : Nat) ≠ 56 + 2 * R + 1 by omega), q1, if_neg z]
          try simp only [rg_gR_77_2, Int.reduceToNat, rg_kIs, rg_kLs, rg_kRs, rg_kVs, rg_nns, rg_bs, cond_true, cond_false]
          rw [xw, rg_M_in]
          try simp only [Int.reduceToNat, rg_kIs, rg_kLs, rg_kRs, rg_kVs, rg_nns, rg_bs, cond_true, cond_false]
          rw [if_pos (show 0 ≤ (I : Int) ∧ (I : Int) ≤ D (56 + 2 * R) 1 - 1 by omega), if_neg (by decide)]
          try simp only [rg_gR_77_3, Int.reduceToNat, rg_kIs, rg_kLs, rg_kRs, rg_kVs, rg_nns, rg_bs, cond_true, cond_false, x1]
          rw [rg_aI_81 (by omega) (by omega)]
          try simp only [rg_hp1, rg_o_77, Int.reduceToNat, rg_kIs, rg_kLs, rg_kRs, rg_kVs, rg_nns, rg_bs, cond_true, cond_false]
          rw [rg_sI_81 (by omega) (by omega)]
          try simp only [rg_gR_77_3, rg_hp1, rg_o_77, Int.reduceToNat, rg_kIs, rg_kLs, rg_kRs, rg_kVs, rg_nns, rg_bs, cond_true, cond_false]
          rw [rg_tN, rg_up_n (show (81 : Nat) ≠ 56 + 2 * R + 1 by omega), q5.1]
      · refine ⟨-3, wfd 2 D, mfd 2 (wfd 2 D), ?_, ?_, hI.fd (by decide) (by decide)⟩
        · rw [rf_e_W_put]
          try simp only [rg_gR_0_1, Int.reduceToNat, rg_kIs, rg_kLs, rg_kRs, rg_kVs, rg_nns, rg_bs, cond_true, cond_false]
          rw [rg_W_pick_y (n := 4) (d + 6) (rg_aL_2 X D) hr row.2]
          try simp only [rg_hp1, rg_o_0, rg_row_o row.1, rg_nzs, Int.reduceToNat, rg_kIs, rg_kLs, rg_kRs, rg_kVs, rg_nns, rg_bs, cond_true, cond_false]
          rw [rg_W_refP row.1 (d + 3) h6 (by omega) i]
          try simp only [if_neg z, if_neg hi, Int.reduceToNat, rg_kIs, rg_kLs, rg_kRs, rg_kVs, rg_nns, rg_bs, cond_true, cond_false]
          rw [if_neg (by decide)]
        · rw [rf_e_M_put, rg_M_isText]
          try simp only [if_pos hr, Int.reduceToNat, rg_kIs, rg_kLs, rg_kRs, rg_kVs, rg_nns, rg_bs, cond_true, cond_false]
          rw [if_neg (by decide)]
          try simp only [rg_gR_77_2, Int.reduceToNat, rg_kIs, rg_kLs, rg_kRs, rg_kVs, rg_nns, rg_bs, cond_true, cond_false]
          rw [rg_aI_80 (by omega) (by omega)]
          try simp only [Int.reduceToNat, rg_kIs, rg_kLs, rg_kRs, rg_kVs, rg_nns, rg_bs, cond_true, cond_false]
          rw [rg_tN, wfd_n (by decide) (by decide), q1, if_neg z]
          try simp only [rg_gR_77_2, Int.reduceToNat, rg_kIs, rg_kLs, rg_kRs, rg_kVs, rg_nns, rg_bs, cond_true, cond_false]
          rw [xw, rg_M_in]
          try simp only [Int.reduceToNat, rg_kIs, rg_kLs, rg_kRs, rg_kVs, rg_nns, rg_bs, cond_true, cond_false]
          rw [if_neg (show ¬ (0 ≤ i ∧ i ≤ D (56 + 2 * R) 1 - 1) by omega), if_pos (by decide)]
          try simp only [rg_hp1, rg_o_77, Int.reduceToNat, rg_kIs, rg_kLs, rg_kRs, rg_kVs, rg_nns, rg_bs, cond_true, cond_false]
          rw [rg_M_finds (d + 6) (by decide) (by decide)]
          try simp only [Int.reduceToNat, rg_kIs, rg_kLs, rg_kRs, rg_kVs, rg_nns, rg_bs, cond_true, cond_false]
  · refine ⟨-1, D, D, ?_, ?_, hI⟩
    · rw [rf_e_W_put]
      try simp only [rg_gR_0_1, Int.reduceToNat, rg_kIs, rg_kLs, rg_kRs, rg_kVs, rg_nns, rg_bs, cond_true, cond_false]
      rw [rg_W_pick_n (n := 4) (d + 6) (rg_aL_2 X D) hr]
      try simp only [rg_hp1, rg_o_0, rg_nzn, Int.reduceToNat, rg_kIs, rg_kLs, rg_kRs, rg_kVs, rg_nns, rg_bs, cond_true, cond_false]
    · rw [rf_e_M_put, rg_M_isText]
      try simp only [if_neg hr, Int.reduceToNat, rg_kIs, rg_kLs, rg_kRs, rg_kVs, rg_nns, rg_bs, cond_true, cond_false]
      rw [if_pos (by decide)]
end RGS3
