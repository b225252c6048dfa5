/-! lots -/
section RGS23
variable {X : rf_X} {D : rf_D}
theorem st_lots (hI : Inv D) (d : Nat) (n0 seed : Int) : Ag X D (d + 10) 104 188 [.inl n0, .inl seed] := by
  unfold Ag
  by_cases hn : (1 ≤ n0 ∧ n0 ≤ 20) ∧ 1 ≤ seed ∧ seed ≤ 2147483646
  · obtain ⟨N, hN⟩ := Int.eq_ofNat_of_zero_le (show 0 ≤ n0 by omega)
    rcases hI.2.2.2.2 with ⟨h12, hNo⟩ | ⟨h12, hY⟩
    · refine ⟨-4, D, D, ?_, ?_, hI⟩
      · rw [rf_e_W_lots, if_neg (by omega), if_neg (by omega), if_neg (by omega), if_pos (by omega)]
        try simp only [rg_gI_0, Int.reduceToNat, rg_kIs, rg_kLs, rg_kRs, rg_kVs, rg_nns, rg_bs, cond_true, cond_false]
        rw [if_pos h12]
      · rw [rf_e_M_lots, rg_M_in]
        try simp only [Int.reduceToNat, rg_kIs, rg_kLs, rg_kRs, rg_kVs, rg_nns, rg_bs, cond_true, cond_false]
        rw [if_pos hn.1, if_neg (by decide), rg_M_in]
        try simp only [Int.reduceToNat, rg_kIs, rg_kLs, rg_kRs, rg_kVs, rg_nns, rg_bs, cond_true, cond_false]
        rw [if_pos hn.2, if_neg (by decide)]
        try simp only [rg_hp1, rg_o_77, Int.reduceToNat, rg_kIs, rg_kLs, rg_kRs, rg_kVs, rg_nns, rg_bs, cond_true, cond_false]
        rw [rg_M_isTrain, hNo.1 0 (by decide)]
        try simp only [Int.reduceToNat, rg_kIs, rg_kLs, rg_kRs, rg_kVs, rg_nns, rg_bs, cond_true, cond_false]
        rw [if_pos (by decide)]
    · have hY2 := hY
      obtain ⟨hd, hC, ha, hb, hT, ⟨n, h4, hDE, hL⟩, hk⟩ := hY2
      have hW := hC.2.2.2.1
      have st := hL.st hDE.1 ha hb hW
      have n60 := hDE.1
      have h0 : 0 < D 82 0 := by
        have := hd.1.1
        omega
      have h37 : D 82 37 = (n : Int) := hL.1
      have xn : rf_w (D 4 1 + n0) = D 4 1 + n0 := rg_w (by omega) (by omega)
      have xm : rf_w (D 82 37 + n0) = D 82 37 + n0 := rg_w (by omega) (by omega)
      by_cases hf : 60 < D 4 1 + n0
      · refine ⟨-2, D, D, ?_, ?_, hI⟩
        · rw [rf_e_W_lots, if_neg (by omega), if_neg (by omega), if_neg (by omega), if_pos (by omega)]
          try simp only [rg_gI_0, Int.reduceToNat, rg_kIs, rg_kLs, rg_kRs, rg_kVs, rg_nns, rg_bs, cond_true, cond_false]
          rw [if_neg (by omega)]
          try simp only [rg_gR_0_3, rg_row_gI rg_row_4, Int.reduceToNat, rg_kIs, rg_kLs, rg_kRs, rg_kVs, rg_nns, rg_bs, cond_true, cond_false]
          rw [xn, if_pos hf]
        · rw [rf_e_M_lots, rg_M_in]
          try simp only [Int.reduceToNat, rg_kIs, rg_kLs, rg_kRs, rg_kVs, rg_nns, rg_bs, cond_true, cond_false]
          rw [if_pos hn.1, if_neg (by decide), rg_M_in]
          try simp only [Int.reduceToNat, rg_kIs, rg_kLs, rg_kRs, rg_kVs, rg_nns, rg_bs, cond_true, cond_false]
          rw [if_pos hn.2, if_neg (by decide)]
          try simp only [rg_hp1, rg_o_77, Int.reduceToNat, rg_kIs, rg_kLs, rg_kRs, rg_kVs, rg_nns, rg_bs, cond_true, cond_false]
          rw [rg_M_isTrain, if_pos h0]
          try simp only [Int.reduceToNat, rg_kIs, rg_kLs, rg_kRs, rg_kVs, rg_nns, rg_bs, cond_true, cond_false]
          rw [if_neg (by decide)]
          try simp only [rg_gR_77_4, Int.reduceToNat, rg_kIs, rg_kLs, rg_kRs, rg_kVs, rg_nns, rg_bs, cond_true, cond_false]
          rw [rg_aI_82 (by decide) (by decide)]
          try simp only [Int.reduceToNat, rg_kIs, rg_kLs, rg_kRs, rg_kVs, rg_nns, rg_bs, cond_true, cond_false]
          rw [xm, if_pos (by omega)]
      · have hch : ∀ i, i ≤ N → sp_ch (D 82) (lt_e (D 5) (sp_ch (D 82) (D 5) (D 28 8) (D 28 9) (D 31 1) n) n seed) (D 28 8) (D 28 9) (D 31 1) (n + i) = lo_s (sp_ch (D 82) (D 5) (D 28 8) (D 28 9) (D 31 1) n) seed i := fun i _ => lt_ch i
        obtain ⟨s, hs⟩ : ∃ s, s = sp_ch (D 82) (D 5) (D 28 8) (D 28 9) (D 31 1) n := ⟨_, rfl⟩
        obtain ⟨e, he⟩ : ∃ e, e = lt_e (D 5) s n seed := ⟨_, rfl⟩
        rw [← hs, ← he] at hch
        have e1 : ∀ i, i < N → e (n + i) = lt_t (lt_x seed (i + 1)) (lo_s s seed i) := fun i _ => by
          rw [he]
          unfold lt_e
          rw [if_neg (by omega), show n + i - n = i by omega]
        have e2 : ∀ j, j < n → e j = D 5 j := fun j hj => by
          rw [he]
          unfold lt_e
          rw [if_pos hj]
        have E0 : E37 (D 82) s := by
          rw [hs]
          exact hL.2.1
        have g35 : D 82 35 = D 43 7 := by
          rw [hT.2.2.2.2.1, Int.sub_zero]
        obtain ⟨D1, w1, w2, w3, w4, w5⟩ := rg_W_lots_67 (X := X) hd ha hb hW (e := e) hn.2.1 (by omega) (n := n) (N := N) (s := s) (by omega) hch e1 (D 43 7) d N 0 D (by omega) hC (hT.ofs fun j _ j2 => (E0 j (by omega)).symm) (by rw [h4]; rfl) (fun j hj => (e2 j (by omega)).symm)
        have D1n : ∀ a, a ≠ 4 → a ≠ 5 → a ≠ 43 → D1 a = D a := w2
        have e82 : D1 82 = D 82 := D1n 82 (by decide) (by decide) (by decide)
        obtain ⟨D2, m1, m2, m3, m4⟩ := rg_M_lots_68 (X := X) hd ha hb hW (e := e) hn.2.1 (by omega) (n := n) (N := N) (s := s) (by omega) hch e1 (D 43 7) (d + 3) N 0 D1 (by omega) (fun j _ => by rw [e82]) (by rw [e82]; exact hL.of hDE.1 (fun _ _ => rfl) e2)
        rw [show lt_x seed 0 = seed by rw [lt_x], show ((0 : Nat) : Int) = 0 from rfl] at w1 m1
        have D2n : ∀ a, a ≠ 4 → a ≠ 5 → a ≠ 43 → a ≠ 82 → a ≠ 88 → D2 a = D a := fun a y1 y2 y3 y4 y5 => by rw [m2 a y4 y5, D1n a y1 y2 y3]
        refine ⟨rf_w (lo_s s seed N 35 - D 43 7), D1, D2, ?_, ?_, ?_⟩
        · rw [rf_e_W_lots, if_neg (by omega), if_neg (by omega), if_neg (by omega), if_pos (by omega)]
          try simp only [rg_gI_0, Int.reduceToNat, rg_kIs, rg_kLs, rg_kRs, rg_kVs, rg_nns, rg_bs, cond_true, cond_false]
          rw [if_neg (by omega)]
          try simp only [rg_gR_0_3, rg_row_gI rg_row_4, Int.reduceToNat, rg_kIs, rg_kLs, rg_kRs, rg_kVs, rg_nns, rg_bs, cond_true, cond_false]
          rw [xn, if_neg hf]
          try simp only [rg_gR_0_10, rg_T_gI rg_tr_43, Int.reduceToNat, rg_kIs, rg_kLs, rg_kRs, rg_kVs, rg_nns, rg_bs, cond_true, cond_false]
          rw [hN]
          exact w1
        · rw [rf_e_M_lots, rg_M_in]
          try simp only [Int.reduceToNat, rg_kIs, rg_kLs, rg_kRs, rg_kVs, rg_nns, rg_bs, cond_true, cond_false]
          rw [if_pos hn.1, if_neg (by decide), rg_M_in]
          try simp only [Int.reduceToNat, rg_kIs, rg_kLs, rg_kRs, rg_kVs, rg_nns, rg_bs, cond_true, cond_false]
          rw [if_pos hn.2, if_neg (by decide)]
          try simp only [rg_hp1, rg_o_77, Int.reduceToNat, rg_kIs, rg_kLs, rg_kRs, rg_kVs, rg_nns, rg_bs, cond_true, cond_false]
          rw [rg_M_isTrain, e82, if_pos h0]
          try simp only [Int.reduceToNat, rg_kIs, rg_kLs, rg_kRs, rg_kVs, rg_nns, rg_bs, cond_true, cond_false]
          rw [if_neg (by decide)]
          try simp only [rg_gR_77_4, Int.reduceToNat, rg_kIs, rg_kLs, rg_kRs, rg_kVs, rg_nns, rg_bs, cond_true, cond_false]
          rw [rg_aI_82 (by decide) (by decide)]
          try simp only [Int.reduceToNat, rg_kIs, rg_kLs, rg_kRs, rg_kVs, rg_nns, rg_bs, cond_true, cond_false]
          rw [e82, xm, if_neg (by omega)]
          try simp only [rg_gR_77_4, Int.reduceToNat, rg_kIs, rg_kLs, rg_kRs, rg_kVs, rg_nns, rg_bs, cond_true, cond_false]
          rw [rg_aI_82 (by decide) (by decide)]
          try simp only [Int.reduceToNat, rg_kIs, rg_kLs, rg_kRs, rg_kVs, rg_nns, rg_bs, cond_true, cond_false]
          rw [e82, g35, hN]
          exact m1
        · have e25 : D2 5 = D1 5 := m2 5 (by decide) (by decide)
          have e243 : D2 43 = D1 43 := m2 43 (by decide) (by decide)
          have hDE2 : DE (D2 5) (n + N) := by
            refine ⟨by omega, fun j hj => ?_⟩
            rw [e25, w5 j hj]
            by_cases jn : j < n
            · rw [e2 j jn]
              exact hDE.2 j jn
            · have xb := lt_xb hn.2.1 (show seed < 2147483647 by omega) (j - n + 1)
              have q := e1 (j - n) (by omega)
              rw [show n + (j - n) = j by omega] at q
              rw [q]
              exact lt_tb xb.1 xb.2 _
          have hY3 : IYes D2 := by
            refine hY.re (n := n + N) hDE2 (fun a y => D2n a (by omega) (by omega) (by omega) (by omega) (by omega)) ?_ m3 ?_ ?_ (fun k hk3 => (hk k hk3).hd hk3 (fun a y => D2n a (by omega) (by omega) (by omega) (by omega) (by omega)) m3)
            · rw [m2 4 (by decide) (by decide)]
              exact w4
            · refine m4.of (by omega) (fun _ _ => rfl) fun j hj => ?_
              rw [e25]
              exact w5 j hj
            · have q : sp_ch (D2 82) (D2 5) (D 28 8) (D 28 9) (D 31 1) (n + N) = lo_s s seed N := by
                rw [← hch N (Nat.le_refl N)]
                refine sp_ch_of m3 _ _ _ fun j hj => ?_
                rw [e25]
                exact w5 j hj
              rw [q, e243]
              exact w3
          refine hI.tr (fun a y => D2n a (by omega) (by omega) (by omega) (by omega) (by omega)) (fun j _ _ => ?_) (fun j _ _ => ?_) (Or.inr ⟨?_, hY3⟩)
          · rw [D2n 0 (by decide) (by decide) (by decide) (by decide) (by decide)]
          · rw [D2n 77 (by decide) (by decide) (by decide) (by decide) (by decide)]
          · rw [D2n 0 (by decide) (by decide) (by decide) (by decide) (by decide)]
            exact h12
  · refine ⟨-1, D, D, ?_, ?_, hI⟩
    · rw [rf_e_W_lots]
      by_cases b1 : n0 < 1
      · rw [if_pos b1]
      · rw [if_neg b1]
        by_cases b2 : 20 < n0
        · rw [if_pos b2]
        · rw [if_neg b2]
          by_cases b3 : seed < 1
          · rw [if_pos b3]
          · rw [if_neg b3, if_neg (by omega)]
    · rw [rf_e_M_lots, rg_M_in]
      try simp only [Int.reduceToNat, rg_kIs, rg_kLs, rg_kRs, rg_kVs, rg_nns, rg_bs, cond_true, cond_false]
      by_cases b : 1 ≤ n0 ∧ n0 ≤ 20
      · rw [if_pos b, if_neg (by decide), rg_M_in]
        try simp only [Int.reduceToNat, rg_kIs, rg_kLs, rg_kRs, rg_kVs, rg_nns, rg_bs, cond_true, cond_false]
        rw [if_neg (fun q => hn ⟨b, q⟩), if_pos (by decide)]
      · rw [if_neg b, if_pos (by decide)]
end RGS23
