/-! load -/
theorem E37.load {u s : Nat → Int} (h : E37 u s) {n : Nat} (hn : n ≤ 7) : sp_load u n = sp_load s n := by
  have e := pt_load (s := s) (w := u) hn
  rw [← pt_E h] at e
  exact e
section RGS11
variable {X : rf_X} {D : rf_D}
theorem ITr.wag (h : ITr D) : D 43 6 = D 82 36 ∧ 0 ≤ D 82 36 ∧ D 82 36 ≤ 6 := by
  rcases h with ⟨-, hN⟩ | ⟨-, hY⟩
  · rw [hN.1 36 (by decide), hN.2.2.1]
    exact ⟨rfl, by decide, by decide⟩
  · obtain ⟨hd, hC, ha, hb, hT, ⟨n, h4, hDE, hL⟩, -⟩ := hY
    have st := hL.st hDE.1 ha hb hC.2.2.2.1
    have b := st.1.2.2.2.2.2.2.1
    exact ⟨hT.2.2.2.2.2, by omega, b.2.2⟩
theorem rg_T_load (d : Nat) (h : ITr D) {a : Int} (a0 : 0 ≤ a) (a1 : a ≤ D 82 36) : rf_call (d + 7) 43 [.inr (.inr (some 43)), .inl a] (hp X D) = some (some (.inl (sp_load (D 82) a.toNat)), hp X D) := by
  rcases h with ⟨-, hN⟩ | ⟨-, hY⟩
  · obtain ⟨n1, n2, n3, n4, n5, n6, n7⟩ := hN
    have az : a = 0 := by
      have := n1 36 (by decide)
      omega
    subst az
    rw [rf_e_T_loadOf]
    try simp only [rg_T_gI rg_tr_43, rg_T_g0 rg_tr_43, Int.reduceToNat, rg_kIs, rg_kLs, rg_kRs, rg_kVs, rg_nns, rg_bs, cond_true, cond_false]
    by_cases z : D 43 10 = 0
    · rw [if_pos z]
      try simp only [rg_gR_28_6, rg_hp1, rg_row_o rg_row_41, Int.reduceToNat, rg_kIs, rg_kLs, rg_kRs, rg_kVs, rg_nns, rg_bs, cond_true, cond_false]
      rw [rg_R_cellI rg_row_41 (d + 5) (by decide) (by rw [n5.2.2.2.2.2.2]; decide) (by rw [n5.2.2.2.2.2.2]; decide)]
      try simp only [Int.reduceToNat, rg_kIs, rg_kLs, rg_kRs, rg_kVs, rg_nns, rg_bs, cond_true, cond_false]
      rw [show D (41 + 1) 0 = 0 from n6.2]
      try rfl
    · rw [if_neg z]
      try simp only [rg_gR_28_5, rg_hp1, rg_row_o rg_row_39, Int.reduceToNat, rg_kIs, rg_kLs, rg_kRs, rg_kVs, rg_nns, rg_bs, cond_true, cond_false]
      rw [rg_R_cellI rg_row_39 (d + 5) (by decide) (by rw [n5.2.2.2.2.2.1]; decide) (by rw [n5.2.2.2.2.2.1]; decide)]
      try simp only [Int.reduceToNat, rg_kIs, rg_kLs, rg_kRs, rg_kVs, rg_nns, rg_bs, cond_true, cond_false]
      rw [show D (39 + 1) 0 = 0 from n6.1]
      try rfl
  · obtain ⟨hd, hC, ha, hb, hT, ⟨n, h4, hDE, hL⟩, -⟩ := hY
    have st := hL.st hDE.1 ha hb hC.2.2.2.1
    exact rg_T_loadOf rg_tr_43 hC (d + 5) a0 (by omega) hT.2.1.2.1 st.1.2.2.2.2.1
theorem st_load (hI : Inv D) (d : Nat) (a : Int) : Ag X D (d + 8) 83 165 [.inl a] := by
  unfold Ag
  have hw := hI.2.2.2.2.wag
  have E1 := sp_first_E (D 88) (D 82)
  by_cases ht : 0 ≤ a ∧ a ≤ D 82 36
  · refine ⟨sp_load (D 82) a.toNat, D, rg_up D 88 (sp_first (D 88) (D 82) 37), ?_, ?_, hI.s88 _⟩
    · rw [rf_e_W_load, if_neg (by omega)]
      try simp only [rg_gR_0_10, rg_T_gI rg_tr_43, Int.reduceToNat, rg_kIs, rg_kLs, rg_kRs, rg_kVs, rg_nns, rg_bs, cond_true, cond_false]
      rw [if_neg (by omega)]
      try simp only [rg_gR_0_10, rg_hp1, rg_tr_43.1, Int.reduceToNat, rg_kIs, rg_kLs, rg_kRs, rg_kVs, rg_nns, rg_bs, cond_true, cond_false]
      rw [rg_T_load d hI.2.2.2.2 ht.1 ht.2]
      try simp only [Int.reduceToNat, rg_kIs, rg_kLs, rg_kRs, rg_kVs, rg_nns, rg_bs, cond_true, cond_false]
    · rw [rf_e_M_load]
      try simp only [rg_hp1, rg_o_77, Int.reduceToNat, rg_kIs, rg_kLs, rg_kRs, rg_kVs, rg_nns, rg_bs, cond_true, cond_false]
      rw [rg_M_take]
      try simp only [rg_gR_77_4, Int.reduceToNat, rg_kIs, rg_kLs, rg_kRs, rg_kVs, rg_nns, rg_bs, cond_true, cond_false]
      rw [rg_aI_82 (by decide) (by decide)]
      try simp only [Int.reduceToNat, rg_kIs, rg_kLs, rg_kRs, rg_kVs, rg_nns, rg_bs, cond_true, cond_false]
      rw [rg_up_n (show (82 : Nat) ≠ 88 by decide), rg_M_in]
      try simp only [Int.reduceToNat, rg_kIs, rg_kLs, rg_kRs, rg_kVs, rg_nns, rg_bs, cond_true, cond_false]
      rw [if_pos ht, if_neg (by decide)]
      try simp only [rg_hp1, rg_o_77, Int.reduceToNat, rg_kIs, rg_kLs, rg_kRs, rg_kVs, rg_nns, rg_bs, cond_true, cond_false]
      rw [rg_M_loadOf (d + 4) ht.1 (by omega), rg_up_s, E1.load (by omega)]
      try simp only [Int.reduceToNat, rg_kIs, rg_kLs, rg_kRs, rg_kVs, rg_nns, rg_bs, cond_true, cond_false]
  · refine ⟨-1, D, rg_up D 88 (sp_first (D 88) (D 82) 37), ?_, ?_, hI.s88 _⟩
    · rw [rf_e_W_load]
      by_cases b : a < 0
      · rw [if_pos b]
      · rw [if_neg b]
        try simp only [rg_gR_0_10, rg_T_gI rg_tr_43, Int.reduceToNat, rg_kIs, rg_kLs, rg_kRs, rg_kVs, rg_nns, rg_bs, cond_true, cond_false]
        rw [if_pos (by omega)]
    · rw [rf_e_M_load]
      try simp only [rg_hp1, rg_o_77, Int.reduceToNat, rg_kIs, rg_kLs, rg_kRs, rg_kVs, rg_nns, rg_bs, cond_true, cond_false]
      rw [rg_M_take]
      try simp only [rg_gR_77_4, Int.reduceToNat, rg_kIs, rg_kLs, rg_kRs, rg_kVs, rg_nns, rg_bs, cond_true, cond_false]
      rw [rg_aI_82 (by decide) (by decide)]
      try simp only [Int.reduceToNat, rg_kIs, rg_kLs, rg_kRs, rg_kVs, rg_nns, rg_bs, cond_true, cond_false]
      rw [rg_up_n (show (82 : Nat) ≠ 88 by decide), rg_M_in]
      try simp only [Int.reduceToNat, rg_kIs, rg_kLs, rg_kRs, rg_kVs, rg_nns, rg_bs, cond_true, cond_false]
      rw [if_neg ht, if_pos (by decide)]
end RGS11
