/-! on -/
section RGS10
variable {X : rf_X} {D : rf_D}
theorem st_on (hI : Inv D) (d : Nat) (t : Int) : Ag X D (d + 8) 81 162 [.inl t] := by
  unfold Ag
  have h6 := hI.2.2.1.2.1
  by_cases ht : 0 ≤ t ∧ t < 3
  · obtain ⟨K, rfl⟩ := Int.eq_ofNat_of_zero_le ht.1
    have hK : K < 3 := by omega
    have row := rg_keptN (X := X) (D := D) hK
    have ht2 : 0 ≤ (K : Int) ∧ (K : Int) ≤ 2 := by omega
    have miss : D 84 K = 0 → D (64 + 2 * K) 1 = -1 → ∃ y D1 D2, rf_call (d + 8) 81 [.inr (.inr (some 0)), .inl (K : Int)] (hp X D) = some (some (.inl y), hp X D1) ∧ rf_call (d + 8) 162 [.inr (.inr (some 77)), .inl (K : Int)] (hp X D1) = some (some (.inl y), hp X D2) ∧ Inv D2 := fun m1 m2 => by
      refine ⟨-3, wfd 1 D, mfd 1 (wfd 1 D), ?_, ?_, hI.fd (by decide) (by decide)⟩
      · rw [rf_e_W_on]
        try simp only [rg_gR_0_2, Int.reduceToNat, rg_kIs, rg_kLs, rg_kRs, rg_kVs, rg_nns, rg_bs, cond_true, cond_false]
        rw [rg_W_pick_y (n := 3) (d + 6) (rg_aL_3 X D) ht row.2]
        try simp only [rg_nzs, rg_hp1, rg_row_o row.1, Int.reduceToNat, rg_kIs, rg_kLs, rg_kRs, rg_kVs, rg_nns, rg_bs, cond_true, cond_false]
        rw [rg_R_isThere row.1, if_pos (by omega)]
        try simp only [Int.reduceToNat, rg_kIs, rg_kLs, rg_kRs, rg_kVs, rg_nns, rg_bs, cond_true, cond_false]
        rw [if_pos (by decide)]
        try simp only [rg_hp1, rg_o_0, Int.reduceToNat, rg_kIs, rg_kLs, rg_kRs, rg_kVs, rg_nns, rg_bs, cond_true, cond_false]
        rw [rg_W_found (d + 4) (by decide) (by decide) h6]
        try simp only [Int.reduceToNat, rg_kIs, rg_kLs, rg_kRs, rg_kVs, rg_nns, rg_bs, cond_true, cond_false]
      · rw [rf_e_M_on, rg_M_in]
        try simp only [if_pos ht2, Int.reduceToNat, rg_kIs, rg_kLs, rg_kRs, rg_kVs, rg_nns, rg_bs, cond_true, cond_false]
        rw [if_neg (by decide)]
        try simp only [rg_gR_77_6, Int.reduceToNat, rg_kIs, rg_kLs, rg_kRs, rg_kVs, rg_nns, rg_bs, cond_true, cond_false]
        rw [rg_aZ_84 (by omega) (by omega)]
        try simp only [Int.reduceToNat, rg_kIs, rg_kLs, rg_kRs, rg_kVs, rg_nns, rg_bs, cond_true, cond_false]
        rw [rg_tN, wfd_n (by decide) (by decide), if_pos m1]
        try simp only [rg_hp1, rg_o_77, Int.reduceToNat, rg_kIs, rg_kLs, rg_kRs, rg_kVs, rg_nns, rg_bs, cond_true, cond_false]
        rw [rg_M_finds (d + 6) (by decide) (by decide)]
        try simp only [Int.reduceToNat, rg_kIs, rg_kLs, rg_kRs, rg_kVs, rg_nns, rg_bs, cond_true, cond_false]
    rcases hI.2.2.2.2 with ⟨h12, hN⟩ | ⟨h12, hY⟩
    · exact miss (hN.2.2.2.2.2.2 K hK).1 (hN.2.2.2.2.2.2 K hK).2
    · have hY2 := hY
      obtain ⟨hd, hC, ha, hb, hT, ⟨n, h4, hDE, hL⟩, hkp⟩ := hY2
      rcases hkp K hK with ⟨m1, m2⟩ | ⟨z, p, k1, k2, k3, k4⟩
      · exact miss m1 m2
      · have p60 := k2.1
        obtain ⟨D1, hD1⟩ : ∃ D1, D1 = rg_up (rg_up D 4 (rg_ui (D 4) 1 (D (64 + 2 * K) 1))) (4 + 1) (fun j => if (j : Int) < D (64 + 2 * K) 1 then D (64 + 2 * K + 1) j else D (4 + 1) j) := ⟨_, rfl⟩
        have D1n : ∀ a, a ≠ 4 → a ≠ 5 → D1 a = D a := fun a y1 y2 => by rw [hD1, rg_up_n y2, rg_up_n y1]
        have D14 : D1 4 1 = (p : Int) := by rw [hD1, rg_up_n (by decide), rg_up_s, rg_ui_s, k1]
        have D15 : ∀ j, j < p → D1 5 j = D (64 + 2 * K + 1) j := fun j hj => by
          rw [hD1, rg_up_s]
          exact if_pos (by omega)
        have DE1 : DE (D1 5) p := ⟨p60, fun k hk => by rw [D15 k hk]; exact k2.2 k hk⟩
        obtain ⟨G, hG⟩ : ∃ G : Nat → Int, G = fun q => if 0 ≤ q ∧ q < 638 then D 83 (638 * K + q) else D 82 q := ⟨_, rfl⟩
        have Gy : ∀ j, j < 638 → G j = D 83 (638 * K + j) := fun j hj => by
          rw [hG]
          exact if_pos ⟨Nat.zero_le _, hj⟩
        have Gh : ∀ j, j < 27 → G j = D 82 j := fun j hj => by rw [Gy j (by omega), k3 j hj]
        have GL : LG G (D1 5) (D 28 8) (D 28 9) (D 31 1) p := k4.of p60 Gy D15
        have bec := rg_R_becomes (X := X) (D := D) rg_row_4 row.1 (by omega) (by omega) (by omega) (d + 4) (by decide) (by omega) (by rw [k1]; omega) (by rw [k1]; omega)
        rw [← hD1] at bec
        have hC1 : CR D1 28 (D 82) (D 31 1) := hC.of fun a y1 y2 => D1n a (by omega) (by omega)
        obtain ⟨f', a1, a2⟩ := rg_W_anew (X := X) (D := D1) d (A := D 82) (m := p) hd (by rw [D1n 28 (by decide) (by decide)]; exact ha) (by rw [D1n 28 (by decide) (by decide)]; exact hb) (by rw [D1n 31 (by decide) (by decide)]; exact hC1) D14 DE1
        rw [D1n 28 (by decide) (by decide), D1n 31 (by decide) (by decide)] at a2
        have F : ∀ a, a ≠ 82 → a ≠ 43 → a ≠ 4 → a ≠ 5 → rg_up (rg_up D1 43 f') 82 G a = D a := fun a y1 y2 y3 y4 => by rw [rg_up_n y1, rg_up_n y2, D1n a y3 y4]
        have F5 : rg_up (rg_up D1 43 f') 82 G 5 = D1 5 := by rw [rg_up_n (by decide), rg_up_n (by decide)]
        refine ⟨(p : Int), rg_up D1 43 f', rg_up (rg_up D1 43 f') 82 G, ?_, ?_, hI.tr (fun a y => F a (by omega) (by omega) (by omega) (by omega)) (fun j _ _ => by rw [F 0 (by omega) (by omega) (by omega) (by omega)]) (fun j _ _ => by rw [F 77 (by omega) (by omega) (by omega) (by omega)]) (Or.inr ⟨by rw [F 0 (by omega) (by omega) (by omega) (by omega)]; exact h12, hY.re (n := p) ?_ (fun a y => F a (by omega) (by omega) (by omega) (by omega)) ?_ (fun j hj => by rw [rg_up_s]; exact Gh j hj) ?_ ?_ (fun q hq => (hkp q hq).hd hq (fun a y => F a (by omega) (by omega) (by omega) (by omega)) (fun j hj => by rw [rg_up_s]; exact Gh j hj))⟩)⟩
        · rw [rf_e_W_on]
          try simp only [rg_gR_0_2, Int.reduceToNat, rg_kIs, rg_kLs, rg_kRs, rg_kVs, rg_nns, rg_bs, cond_true, cond_false]
          rw [rg_W_pick_y (n := 3) (d + 6) (rg_aL_3 X D) ht row.2]
          try simp only [rg_nzs, rg_hp1, rg_row_o row.1, Int.reduceToNat, rg_kIs, rg_kLs, rg_kRs, rg_kVs, rg_nns, rg_bs, cond_true, cond_false]
          rw [rg_R_isThere row.1, if_neg (by omega)]
          try simp only [Int.reduceToNat, rg_kIs, rg_kLs, rg_kRs, rg_kVs, rg_nns, rg_bs, cond_true, cond_false]
          rw [if_neg (by decide)]
          try simp only [rg_gR_0_3, rg_hp1, rg_row_o rg_row_4, Int.reduceToNat, rg_kIs, rg_kLs, rg_kRs, rg_kVs, rg_nns, rg_bs, cond_true, cond_false]
          rw [bec]
          try simp only [rg_hp1, rg_o_0, Int.reduceToNat, rg_kIs, rg_kLs, rg_kRs, rg_kVs, rg_nns, rg_bs, cond_true, cond_false]
          rw [a1]
          try simp only [rg_gR_0_3, rg_row_gI rg_row_4, Int.reduceToNat, rg_kIs, rg_kLs, rg_kRs, rg_kVs, rg_nns, rg_bs, cond_true, cond_false]
          rw [rg_up_n (show (4 : Nat) ≠ 43 by decide), D14]
        · rw [rf_e_M_on, rg_M_in]
          try simp only [if_pos ht2, Int.reduceToNat, rg_kIs, rg_kLs, rg_kRs, rg_kVs, rg_nns, rg_bs, cond_true, cond_false]
          rw [if_neg (by decide)]
          try simp only [rg_gR_77_6, Int.reduceToNat, rg_kIs, rg_kLs, rg_kRs, rg_kVs, rg_nns, rg_bs, cond_true, cond_false]
          rw [rg_aZ_84 (by omega) (by omega)]
          try simp only [Int.reduceToNat, rg_kIs, rg_kLs, rg_kRs, rg_kVs, rg_nns, rg_bs, cond_true, cond_false]
          rw [rg_tN, rg_up_n (show (84 : Nat) ≠ 43 by decide), D1n 84 (by decide) (by decide), z, if_neg (by decide)]
          have l := rg_M_on_31 (X := X) (d + 7) hK 638 0 (rg_up D1 43 f') (by omega)
          rw [rg_up_n (show (82 : Nat) ≠ 43 by decide), rg_up_n (show (83 : Nat) ≠ 43 by decide), D1n 82 (by decide) (by decide), D1n 83 (by decide) (by decide), ← hG, show ((0 : Nat) : Int) = 0 from rfl] at l
          rw [l, rf_e_M_on_31, if_neg (by decide)]
          try simp only [rg_gR_77_4, Int.reduceToNat, rg_kIs, rg_kLs, rg_kRs, rg_kVs, rg_nns, rg_bs, cond_true, cond_false]
          rw [rg_aI_82 (by decide) (by decide)]
          try simp only [Int.reduceToNat, rg_kIs, rg_kLs, rg_kRs, rg_kVs, rg_nns, rg_bs, cond_true, cond_false]
          rw [rg_up_s, show G 37 = (p : Int) from GL.1]
        · rw [F5]
          exact DE1
        · rw [rg_up_n (by decide), rg_up_n (by decide)]
          exact D14
        · rw [rg_up_s, F5]
          exact GL
        · rw [rg_up_s, F5, rg_up_n (show (43 : Nat) ≠ 82 by decide), rg_up_s, sp_ch_of (e := D1 5) Gh _ _ _ (fun _ _ => rfl)]
          exact a2
  · refine ⟨-1, D, D, ?_, ?_, hI⟩
    · rw [rf_e_W_on]
      try simp only [rg_gR_0_2, Int.reduceToNat, rg_kIs, rg_kLs, rg_kRs, rg_kVs, rg_nns, rg_bs, cond_true, cond_false]
      rw [rg_W_pick_n (n := 3) (d + 6) (rg_aL_3 X D) ht]
      try simp only [rg_nzn, Int.reduceToNat, rg_kIs, rg_kLs, rg_kRs, rg_kVs, rg_nns, rg_bs, cond_true, cond_false]
    · rw [rf_e_M_on, rg_M_in]
      try simp only [Int.reduceToNat, rg_kIs, rg_kLs, rg_kRs, rg_kVs, rg_nns, rg_bs, cond_true, cond_false]
      rw [if_neg (show ¬ (0 ≤ t ∧ t ≤ 2) by omega), if_pos (by decide)]
end RGS10
