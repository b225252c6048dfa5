/-! keep and on -/
section RGS9
variable {X : rf_X} {D : rf_D}
theorem rg_keptN {K : Nat} (h : K < 3) : rg_row (64 + 2 * K) 60 ∧ rf_aR (hp X D) 3 (K : Int) = some (some (64 + 2 * K)) := by
  have e := rg_row_kept (X := X) (D := D) (i := (K : Int)) (by omega) (by omega)
  rw [rg_tN] at e
  exact e
theorem rg_M_keep_26 (d : Nat) {K : Nat} (hK : K < 3) : ∀ (k i : Nat) (D : rf_D), i + k = 638 → rf_j_M_keep_26 d 77 (K : Int) (i : Int) (hp X D) = rf_j_M_keep_26 d 77 (K : Int) 638 (hp X (rg_up D 83 (fun q => if 638 * K + i ≤ q ∧ q < 638 * K + 638 then D 82 (q - 638 * K) else D 83 q)))
  | 0, i, D, hk => by
    have e : (fun q => if 638 * K + i ≤ q ∧ q < 638 * K + 638 then D 82 (q - 638 * K) else D 83 q) = D 83 := by
      funext q
      rw [if_neg (by omega)]
    rw [e, rg_up_i, show (i : Int) = 638 by omega]
  | k + 1, i, D, hk => by
    have x1 : rf_w (rf_w (638 * (K : Int)) + (i : Int)) = ((638 * K + i : Nat) : Int) := by
      rw [rg_w (z := 638 * (K : Int)) (by omega) (by omega), rg_w (by omega) (by omega)]
      omega
    have x3 : rf_w ((i : Int) + 1) = ((i + 1 : Nat) : Int) := by
      rw [rg_w (by omega) (by omega)]
      omega
    rw [rf_e_M_keep_26, if_pos (by omega)]
    try simp only [rg_gR_77_5, rg_gR_77_4, Int.reduceToNat, rg_kIs, rg_kLs, rg_kRs, rg_kVs, rg_nns, rg_bs, cond_true, cond_false, x1, x3]
    rw [rg_aI_82 (by omega) (by omega)]
    try simp only [Int.reduceToNat, rg_kIs, rg_kLs, rg_kRs, rg_kVs, rg_nns, rg_bs, cond_true, cond_false]
    rw [rg_sI_83 (by omega) (by omega)]
    try simp only [Int.reduceToNat, rg_kIs, rg_kLs, rg_kRs, rg_kVs, rg_nns, rg_bs, cond_true, cond_false]
    rw [rg_M_keep_26 d hK k (i + 1) _ (by omega), rg_up_u, rg_up_s, rg_up_n (by decide), rg_tN, rg_tN]
    refine congrArg (fun f : Nat → Int => rf_j_M_keep_26 d 77 (K : Int) 638 (hp X (rg_up D 83 f))) (funext fun q => ?_)
    show (if 638 * K + (i + 1) ≤ q ∧ q < 638 * K + 638 then D 82 (q - 638 * K) else (if q = 638 * K + i then D 82 i else D 83 q)) = (if 638 * K + i ≤ q ∧ q < 638 * K + 638 then D 82 (q - 638 * K) else D 83 q)
    by_cases h1 : 638 * K + (i + 1) ≤ q ∧ q < 638 * K + 638
    · rw [if_pos h1, if_pos (by omega)]
    · rw [if_neg h1]
      by_cases h2 : q = 638 * K + i
      · rw [if_pos h2, if_pos (by omega), h2, show 638 * K + i - 638 * K = i by omega]
      · rw [if_neg h2, if_neg (by omega)]
theorem rg_M_on_31 (d : Nat) {K : Nat} (hK : K < 3) : ∀ (k i : Nat) (D : rf_D), i + k = 638 → rf_j_M_on_31 d 77 (K : Int) (i : Int) (hp X D) = rf_j_M_on_31 d 77 (K : Int) 638 (hp X (rg_up D 82 (fun q => if i ≤ q ∧ q < 638 then D 83 (638 * K + q) else D 82 q)))
  | 0, i, D, hk => by
    have e : (fun q => if i ≤ q ∧ q < 638 then D 83 (638 * K + q) else D 82 q) = D 82 := by
      funext q
      rw [if_neg (by omega)]
    rw [e, rg_up_i, show (i : Int) = 638 by omega]
  | k + 1, i, D, hk => by
    have x1 : rf_w (rf_w (638 * (K : Int)) + (i : Int)) = ((638 * K + i : Nat) : Int) := by
      rw [rg_w (z := 638 * (K : Int)) (by omega) (by omega), rg_w (by omega) (by omega)]
      omega
    have x3 : rf_w ((i : Int) + 1) = ((i + 1 : Nat) : Int) := by
      rw [rg_w (by omega) (by omega)]
      omega
    rw [rf_e_M_on_31, if_pos (by omega)]
    try simp only [rg_gR_77_5, rg_gR_77_4, Int.reduceToNat, rg_kIs, rg_kLs, rg_kRs, rg_kVs, rg_nns, rg_bs, cond_true, cond_false, x1, x3]
    rw [rg_aI_83 (by omega) (by omega)]
    try simp only [Int.reduceToNat, rg_kIs, rg_kLs, rg_kRs, rg_kVs, rg_nns, rg_bs, cond_true, cond_false]
    rw [rg_sI_82 (by omega) (by omega)]
    try simp only [Int.reduceToNat, rg_kIs, rg_kLs, rg_kRs, rg_kVs, rg_nns, rg_bs, cond_true, cond_false]
    rw [rg_M_on_31 d hK k (i + 1) _ (by omega), rg_up_u, rg_up_s, rg_up_n (by decide), rg_tN, rg_tN]
    refine congrArg (fun f : Nat → Int => rf_j_M_on_31 d 77 (K : Int) 638 (hp X (rg_up D 82 f))) (funext fun q => ?_)
    show (if i + 1 ≤ q ∧ q < 638 then D 83 (638 * K + q) else (if q = i then D 83 (638 * K + i) else D 82 q)) = (if i ≤ q ∧ q < 638 then D 83 (638 * K + q) else D 82 q)
    by_cases h1 : i + 1 ≤ q ∧ q < 638
    · rw [if_pos h1, if_pos (by omega)]
    · rw [if_neg h1]
      by_cases h2 : q = i
      · rw [if_pos h2, if_pos (by omega), h2]
      · rw [if_neg h2, if_neg (by omega)]
theorem st_keep (hI : Inv D) (d : Nat) (t : Int) : Ag X D (d + 8) 80 161 [.inl t] := by
  unfold Ag
  by_cases ht : 0 ≤ t ∧ t < 3
  · obtain ⟨K, rfl⟩ := Int.eq_ofNat_of_zero_le ht.1
    have hK : K < 3 := by omega
    have row := rg_keptN (X := X) (D := D) hK
    have ht2 : 0 ≤ (K : Int) ∧ (K : Int) ≤ 2 := by omega
    rcases hI.2.2.2.2 with ⟨h12, hN⟩ | ⟨h12, hY⟩
    · refine ⟨-4, D, D, ?_, ?_, hI⟩
      · rw [rf_e_W_keep]
        try simp only [rg_gR_0_2, Int.reduceToNat, rg_kIs, rg_kLs, rg_kRs, rg_kVs, rg_nns, rg_bs, cond_true, cond_false]
        rw [rg_W_pick_y (n := 3) (d + 6) (rg_aL_3 X D) ht row.2]
        try simp only [rg_nzs, rg_gI_0, Int.reduceToNat, rg_kIs, rg_kLs, rg_kRs, rg_kVs, rg_nns, rg_bs, cond_true, cond_false]
        rw [if_pos h12]
      · rw [rf_e_M_keep, rg_M_in]
        try simp only [if_pos ht2, Int.reduceToNat, rg_kIs, rg_kLs, rg_kRs, rg_kVs, rg_nns, rg_bs, cond_true, cond_false]
        rw [if_neg (by decide)]
        try simp only [rg_hp1, rg_o_77, Int.reduceToNat, rg_kIs, rg_kLs, rg_kRs, rg_kVs, rg_nns, rg_bs, cond_true, cond_false]
        rw [rg_M_isTrain, hN.1 0 (by decide)]
        try simp only [Int.reduceToNat, rg_kIs, rg_kLs, rg_kRs, rg_kVs, rg_nns, rg_bs, cond_true, cond_false]
        rw [if_pos (by decide)]
    · have hY2 := hY
      obtain ⟨hd, hC, ha, hb, hT, ⟨n, h4, hDE, hL⟩, hkp⟩ := hY2
      have n60 := hDE.1
      have h0 : 0 < D 82 0 := by
        have := hd.1.1
        omega
      obtain ⟨D1, hD1⟩ : ∃ D1, D1 = rg_up (rg_up D (64 + 2 * K) (rg_ui (D (64 + 2 * K)) 1 (D 4 1))) (64 + 2 * K + 1) (fun j => if (j : Int) < D 4 1 then D (4 + 1) j else D (64 + 2 * K + 1) j) := ⟨_, rfl⟩
      have D1n : ∀ a, a ≠ 64 + 2 * K → a ≠ 64 + 2 * K + 1 → D1 a = D a := fun a y1 y2 => by rw [hD1, rg_up_n y2, rg_up_n y1]
      obtain ⟨G, hG⟩ : ∃ G : Nat → Int, G = fun q => if 638 * K + 0 ≤ q ∧ q < 638 * K + 638 then D 82 (q - 638 * K) else D 83 q := ⟨_, rfl⟩
      have Gy : ∀ j, j < 638 → G (638 * K + j) = D 82 j := fun j hj => by
        rw [hG]
        show (if 638 * K + 0 ≤ 638 * K + j ∧ 638 * K + j < 638 * K + 638 then D 82 (638 * K + j - 638 * K) else D 83 (638 * K + j)) = _
        rw [if_pos (by omega), show 638 * K + j - 638 * K = j by omega]
      have Gn : ∀ q j, q ≠ K → j < 638 → G (638 * q + j) = D 83 (638 * q + j) := fun q j hq hj => by
        rw [hG]
        exact if_neg (by omega)
      have F : ∀ a, a ≠ 84 → a ≠ 83 → a ≠ 64 + 2 * K → a ≠ 64 + 2 * K + 1 → rg_up (rg_up D1 83 G) 84 (rg_ui (D 84) K 1) a = D a := fun a y1 y2 y3 y4 => by rw [rg_up_n y1, rg_up_n y2, D1n a y3 y4]
      have F84 : rg_up (rg_up D1 83 G) 84 (rg_ui (D 84) K 1) 84 = rg_ui (D 84) K 1 := rg_up_s _ _ _
      have F83 : rg_up (rg_up D1 83 G) 84 (rg_ui (D 84) K 1) 83 = G := by rw [rg_up_n (by decide), rg_up_s]
      have Fo : rg_up (rg_up D1 83 G) 84 (rg_ui (D 84) K 1) (64 + 2 * K) 1 = (n : Int) := by rw [rg_up_n (by omega), rg_up_n (by omega), hD1, rg_up_n (by omega), rg_up_s, rg_ui_s, h4]
      have Fo1 : ∀ j, j < n → rg_up (rg_up D1 83 G) 84 (rg_ui (D 84) K 1) (64 + 2 * K + 1) j = D 5 j := fun j hj => by
        rw [rg_up_n (by omega), rg_up_n (by omega), hD1, rg_up_s]
        exact if_pos (by omega)
      have bec := rg_R_becomes (X := X) (D := D) row.1 rg_row_4 (by omega) (by omega) (by omega) (d + 4) (by decide) (by omega) (by rw [h4]; omega) (by rw [h4]; omega)
      rw [← hD1] at bec
      refine ⟨(n : Int), D1, rg_up (rg_up D1 83 G) 84 (rg_ui (D 84) K 1), ?_, ?_, hI.tr (fun a y => F a (by omega) (by omega) (by omega) (by omega)) (fun j _ _ => by rw [F 0 (by omega) (by omega) (by omega) (by omega)]) (fun j _ _ => by rw [F 77 (by omega) (by omega) (by omega) (by omega)]) (Or.inr ⟨by rw [F 0 (by omega) (by omega) (by omega) (by omega)]; exact h12, hY.re (n := n) ?_ (fun a y => F a (by omega) (by omega) (by omega) (by omega)) ?_ (fun j _ => by rw [F 82 (by omega) (by omega) (by omega) (by omega)]) ?_ ?_ (fun q hq => ?_)⟩)⟩
      · rw [rf_e_W_keep]
        try simp only [rg_gR_0_2, Int.reduceToNat, rg_kIs, rg_kLs, rg_kRs, rg_kVs, rg_nns, rg_bs, cond_true, cond_false]
        rw [rg_W_pick_y (n := 3) (d + 6) (rg_aL_3 X D) ht row.2]
        try simp only [rg_nzs, rg_gI_0, Int.reduceToNat, rg_kIs, rg_kLs, rg_kRs, rg_kVs, rg_nns, rg_bs, cond_true, cond_false]
        rw [if_neg (by omega)]
        try simp only [rg_gR_0_3, rg_hp1, rg_row_o row.1, Int.reduceToNat, rg_kIs, rg_kLs, rg_kRs, rg_kVs, rg_nns, rg_bs, cond_true, cond_false]
        rw [bec]
        try simp only [rg_gR_0_3, rg_row_gI rg_row_4, Int.reduceToNat, rg_kIs, rg_kLs, rg_kRs, rg_kVs, rg_nns, rg_bs, cond_true, cond_false]
        rw [D1n 4 (by omega) (by omega), h4]
      · rw [rf_e_M_keep, rg_M_in]
        try simp only [if_pos ht2, Int.reduceToNat, rg_kIs, rg_kLs, rg_kRs, rg_kVs, rg_nns, rg_bs, cond_true, cond_false]
        rw [if_neg (by decide)]
        try simp only [rg_hp1, rg_o_77, Int.reduceToNat, rg_kIs, rg_kLs, rg_kRs, rg_kVs, rg_nns, rg_bs, cond_true, cond_false]
        rw [rg_M_isTrain, D1n 82 (by omega) (by omega), if_pos h0]
        try simp only [Int.reduceToNat, rg_kIs, rg_kLs, rg_kRs, rg_kVs, rg_nns, rg_bs, cond_true, cond_false]
        rw [if_neg (by decide)]
        have l := rg_M_keep_26 (X := X) (d + 7) hK 638 0 D1 (by omega)
        rw [D1n 82 (by omega) (by omega), D1n 83 (by omega) (by omega), ← hG, show ((0 : Nat) : Int) = 0 from rfl] at l
        rw [l, rf_e_M_keep_26, if_neg (by decide)]
        try simp only [rg_gR_77_6, Int.reduceToNat, rg_kIs, rg_kLs, rg_kRs, rg_kVs, rg_nns, rg_bs, cond_true, cond_false]
        rw [rg_sZ_84 (by omega) (by omega)]
        try simp only [rg_gR_77_4, Int.reduceToNat, rg_kIs, rg_kLs, rg_kRs, rg_kVs, rg_nns, rg_bs, cond_true, cond_false]
        rw [rg_aI_82 (by decide) (by decide)]
        try simp only [Int.reduceToNat, rg_kIs, rg_kLs, rg_kRs, rg_kVs, rg_nns, rg_bs, cond_true, cond_false]
        rw [rg_tN, rg_up_n (show (84 : Nat) ≠ 83 by decide), D1n 84 (by omega) (by omega), rg_up_n (show (82 : Nat) ≠ 84 by decide), rg_up_n (show (82 : Nat) ≠ 83 by decide), D1n 82 (by omega) (by omega)]
        rw [show D 82 37 = (n : Int) from hL.1]
      · rw [F 5 (by omega) (by omega) (by omega) (by omega)]
        exact hDE
      · rw [F 4 (by omega) (by omega) (by omega) (by omega)]
        exact h4
      · rw [F 82 (by omega) (by omega) (by omega) (by omega), F 5 (by omega) (by omega) (by omega) (by omega)]
        exact hL
      · rw [F 82 (by omega) (by omega) (by omega) (by omega), F 5 (by omega) (by omega) (by omega) (by omega), F 43 (by omega) (by omega) (by omega) (by omega)]
        exact hT.ofs fun j j1 j2 => (hL.2.1 j (by omega)).symm
      · unfold IKp
        rw [F 28 (by omega) (by omega) (by omega) (by omega), F 31 (by omega) (by omega) (by omega) (by omega), F 82 (by omega) (by omega) (by omega) (by omega), F84, F83]
        by_cases qK : q = K
        · rw [qK, rg_ui_s]
          refine Or.inr ⟨rfl, n, Fo, ⟨n60, fun k hk => by rw [Fo1 k hk]; exact hDE.2 k hk⟩, fun j hj => Gy j (by omega), ?_⟩
          exact hL.of n60 (fun j hj => Gy j hj) Fo1
        · rw [rg_ui_n qK, F (64 + 2 * q) (by omega) (by omega) (by omega) (by omega), F (64 + 2 * q + 1) (by omega) (by omega) (by omega) (by omega)]
          rcases hkp q hq with z | ⟨z, p, k1, k2, k3, k4⟩
          · exact Or.inl z
          · exact Or.inr ⟨z, p, k1, k2, fun j hj => by rw [Gn q j qK (by omega)]; exact k3 j hj, k4.of k2.1 (fun j hj => Gn q j qK hj) (fun _ _ => rfl)⟩
  · refine ⟨-1, D, D, ?_, ?_, hI⟩
    · rw [rf_e_W_keep]
      try simp only [rg_gR_0_2, Int.reduceToNat, rg_kIs, rg_kLs, rg_kRs, rg_kVs, rg_nns, rg_bs, cond_true, cond_false]
      rw [rg_W_pick_n (n := 3) (d + 6) (rg_aL_3 X D) ht]
      try simp only [rg_nzn, Int.reduceToNat, rg_kIs, rg_kLs, rg_kRs, rg_kVs, rg_nns, rg_bs, cond_true, cond_false]
    · rw [rf_e_M_keep, rg_M_in]
      try simp only [Int.reduceToNat, rg_kIs, rg_kLs, rg_kRs, rg_kVs, rg_nns, rg_bs, cond_true, cond_false]
      rw [if_neg (show ¬ (0 ≤ t ∧ t ≤ 2) by omega), if_pos (by decide)]
end RGS9
