/-! stay, told -/
section RGS42
variable {X : rf_X} {D : rf_D}
theorem st_stay (hI : Inv D) (d : Nat) (n0 : Int) : Ag X D (d + 15) 92 178 [.inl n0] := by
  unfold Ag
  by_cases hn : 0 ≤ n0 ∧ n0 ≤ 4
  · obtain ⟨n, hnn⟩ := Int.eq_ofNat_of_zero_le hn.1
    rcases hI.2.2.2.2 with ⟨h12, hN⟩ | ⟨h12, hY⟩
    · refine ⟨-4, D, D, ?_, ?_, hI⟩
      · rw [rf_e_W_stay, if_neg (by omega), if_neg (by omega)]
        try simp only [rg_gI_0, Int.reduceToNat, rg_kIs, rg_kLs, rg_kRs, rg_kVs, rg_nns, rg_bs, cond_true, cond_false]
        rw [if_pos h12]
      · rw [rf_e_M_stay, rg_M_in]
        try simp only [Int.reduceToNat, rg_kIs, rg_kLs, rg_kRs, rg_kVs, rg_nns, rg_bs, cond_true, cond_false]
        rw [if_pos hn, if_neg (by decide)]
        try simp only [rg_hp1, rg_o_77, Int.reduceToNat, rg_kIs, rg_kLs, rg_kRs, rg_kVs, rg_nns, rg_bs, cond_true, cond_false]
        rw [rg_M_isTrain, hN.1 0 (by decide)]
        try simp only [Int.reduceToNat, rg_kIs, rg_kLs, rg_kRs, rg_kVs, rg_nns, rg_bs, cond_true, cond_false]
        rw [if_pos (by decide)]
    · obtain ⟨hd, hC, ha, hb, hT, ⟨k, h4, hDE, hL⟩, -⟩ := hY
      have st := hL.st hDE.1 ha hb hC.2.2.2.1
      have k60 := hDE.1
      have b33 := st.1.2.2.2.2.2.2.1
      have b35 := st.1.2.2.2.2.2.2.2.2
      have z2 : 1 ≤ D 82 2 ∧ D 82 2 ≤ 6 := hd.2.2.1
      have h0 : 0 < D 82 0 := by
        have := hd.1.1
        omega
      have h8 := hI.2.2.2.1.1
      obtain ⟨N, hN⟩ := Int.eq_ofNat_of_zero_le (show 0 ≤ D 82 36 by omega)
      obtain ⟨G, w1, w2⟩ := rg_W_stay_23 (X := X) (n := n) (W := D 31 1) (by omega) hd st.1 (by omega) (by omega) st.2.1 (by omega) hN d (N + 1) 0 D (by omega) hC hT h8
      have G82 : G 82 = D 82 := w2 82 (by decide) (by decide)
      obtain ⟨H, m1, m2, m3⟩ := rg_M_stay_26 (X := X) (A := D 82) (n := n) (by omega) st.1 (by omega) (by omega) z2 hN (d + 8) (N + 1) 0 G (by omega) G82
      rw [show ((0 : Nat) : Int) = 0 from rfl] at w1 m1
      refine ⟨sa_v (D 82) n (N + 1) 0, G, H, ?_, ?_, ?_⟩
      · rw [rf_e_W_stay, if_neg (by omega), if_neg (by omega)]
        try simp only [rg_gI_0, Int.reduceToNat, rg_kIs, rg_kLs, rg_kRs, rg_kVs, rg_nns, rg_bs, cond_true, cond_false]
        rw [if_neg (by omega), hnn]
        exact w1
      · rw [rf_e_M_stay, rg_M_in]
        try simp only [Int.reduceToNat, rg_kIs, rg_kLs, rg_kRs, rg_kVs, rg_nns, rg_bs, cond_true, cond_false]
        rw [if_pos hn, if_neg (by decide)]
        try simp only [rg_hp1, rg_o_77, Int.reduceToNat, rg_kIs, rg_kLs, rg_kRs, rg_kVs, rg_nns, rg_bs, cond_true, cond_false]
        rw [rg_M_isTrain, G82, if_pos h0]
        try simp only [Int.reduceToNat, rg_kIs, rg_kLs, rg_kRs, rg_kVs, rg_nns, rg_bs, cond_true, cond_false]
        rw [if_neg (by decide), hnn]
        exact m1
      · have iG : Inv G := hI.scr (fun a y1 y2 y3 y4 y5 y6 y7 => w2 a y2 (by omega)) (by rw [w2 8 (by decide) (by decide)]) (by rw [w2 10 (by decide) (by decide)]) (fun j _ _ => by rw [w2 77 (by decide) (by decide)])
        exact iG.scr (fun a y1 y2 y3 y4 y5 y6 y7 => m2 a (by omega) (by omega) (by omega) (by omega)) (by rw [m2 8 (by decide) (by decide) (by decide) (by decide)]) (by rw [m2 10 (by decide) (by decide) (by decide) (by decide)]) (fun j _ _ => m3 j (by omega) (by omega))
  · refine ⟨-1, D, D, ?_, ?_, hI⟩
    · rw [rf_e_W_stay]
      by_cases b : n0 < 0
      · rw [if_pos b]
      · rw [if_neg b, if_pos (by omega)]
    · rw [rf_e_M_stay, rg_M_in]
      try simp only [Int.reduceToNat, rg_kIs, rg_kLs, rg_kRs, rg_kVs, rg_nns, rg_bs, cond_true, cond_false]
      rw [if_neg hn, if_pos (by decide)]
end RGS42
