/-! shortest, told -/
section RGS45
variable {X : rf_X} {D : rf_D}
theorem st_shortest (hI : Inv D) (d : Nat) (n0 r : Int) : Ag X D (d + 15) 90 173 [.inl n0, .inl r] := by
  unfold Ag
  by_cases hr : 0 ≤ r ∧ r < 6
  · obtain ⟨R, hRR⟩ := Int.eq_ofNat_of_zero_le hr.1
    have hR : R < 6 := by omega
    have row := rg_rowN (X := X) (D := D) hR
    rw [← hRR] at row
    by_cases hn : 0 ≤ n0 ∧ n0 ≤ 4
    · obtain ⟨n, hnn⟩ := Int.eq_ofNat_of_zero_le hn.1
      rcases hI.2.2.2.2 with ⟨h12, hN⟩ | ⟨h12, hY⟩
      · refine ⟨-4, D, D, ?_, ?_, hI⟩
        · rw [rf_e_W_shortest]
          try simp only [rg_gR_0_0, Int.reduceToNat, rg_kIs, rg_kLs, rg_kRs, rg_kVs, rg_nns, rg_bs, cond_true, cond_false]
          rw [rg_W_pick_y (n := 6) (d + 13) (rg_aL_1 X D) hr row.2]
          try simp only [Int.reduceToNat, rg_kIs, rg_kLs, rg_kRs, rg_kVs, rg_nns, rg_bs, cond_true, cond_false]
          rw [rg_nzs, if_neg (by omega), if_neg (by omega)]
          try simp only [rg_gI_0, Int.reduceToNat, rg_kIs, rg_kLs, rg_kRs, rg_kVs, rg_nns, rg_bs, cond_true, cond_false]
          rw [if_pos h12]
        · rw [rf_e_M_shortest, rg_M_in]
          try simp only [Int.reduceToNat, rg_kIs, rg_kLs, rg_kRs, rg_kVs, rg_nns, rg_bs, cond_true, cond_false]
          rw [if_pos hn, if_neg (by decide), rg_M_isRow]
          try simp only [Int.reduceToNat, rg_kIs, rg_kLs, rg_kRs, rg_kVs, rg_nns, rg_bs, cond_true, cond_false]
          rw [if_pos hr, if_neg (by decide)]
          try simp only [rg_hp1, rg_o_77, Int.reduceToNat, rg_kIs, rg_kLs, rg_kRs, rg_kVs, rg_nns, rg_bs, cond_true, cond_false]
          rw [rg_M_isTrain, hN.1 0 (by decide)]
          try simp only [Int.reduceToNat, rg_kIs, rg_kLs, rg_kRs, rg_kVs, rg_nns, rg_bs, cond_true, cond_false]
          rw [if_pos (by decide)]
      · obtain ⟨hd, hC, ha, hb, hT, ⟨k, h4, hDE, hL⟩, -⟩ := hY
        have st := hL.st hDE.1 ha hb hC.2.2.2.1
        have k60 := hDE.1
        have b33 := st.1.2.2.2.2.2.2.1
        have b35 := st.1.2.2.2.2.2.2.2.2
        have z2 : 1 ≤ D 82 2 ∧ D 82 2 ≤ 6 := hd.2.2.1
        have h0 : 0 < D 82 0 := by
          have := hd.1.1
          omega
        have n4 : n ≤ 4 := by omega
        have h8 := hI.2.2.2.1.1
        obtain ⟨f1, a1, a2⟩ := rg_W_aside (X := X) hT st.1 (d + 12) (k := 0) (by decide) (by omega)
        rw [sy_0 b33.2.1] at a2
        obtain ⟨F, hF⟩ : ∃ F, F = rg_up D 76 f1 := ⟨_, rfl⟩
        have Fn : ∀ a, a ≠ 76 → F a = D a := fun a y => by rw [hF, rg_up_n y]
        have F76 : TR (F 76) (D 82) (D 82 35) := by
          rw [hF, rg_up_s]
          exact a2
        obtain ⟨o, ho⟩ : ∃ o, o = 44 + 2 * R := ⟨_, rfl⟩
        rw [← ho] at row
        obtain ⟨G, g1, g2, g3⟩ := rg_W_sho_42 (X := X) (A := D 82) (m := (k : Int)) (W := D 31 1) (n := n) (o := o) row.1 (by omega) n4 hd st.1 (by omega) (by omega) st.2.1 (by omega) d n 1 F (by omega) (by omega) (hC.of fun a _ _ => Fn a (by omega)) F76 (by rw [Fn 8 (by decide)]; exact h8) (fun i y1 y2 => by omega)
        have Gn : ∀ a, a ≠ 9 → a ≠ o → a ≠ o + 1 → (a < 70 ∨ 77 ≤ a) → G a = D a := fun a y1 y2 y3 y4 => by rw [g1 a y1 y2 y3 (by omega), Fn a (by omega)]
        obtain ⟨H, h1, h2, h3, h5⟩ := rg_M_sho_33 (X := X) (A := D 82) (m := (k : Int)) (R := R) (n := n) hR n4 st.1 (by omega) (by omega) z2 d n 1 G (by omega) (by omega) (Gn 82 (by decide) (by omega) (by omega) (by decide))
        rw [show ((1 : Nat) : Int) = 1 from rfl] at g2 g3 h3 h5
        have W0 : ∀ z T, rf_j_W_shortest_42 (d + 14) 0 (n : Int) (some o) 1 (hp X F) = some (some (.inl z), T) → rf_call (d + 15) 90 (.inr (.inr (some 0)) :: [.inl n0, .inl r]) (hp X D) = some (some (.inl z), T) := fun z T e => by
          rw [rf_e_W_shortest]
          try simp only [rg_gR_0_0, Int.reduceToNat, rg_kIs, rg_kLs, rg_kRs, rg_kVs, rg_nns, rg_bs, cond_true, cond_false]
          rw [rg_W_pick_y (n := 6) (d + 13) (rg_aL_1 X D) hr row.2]
          try simp only [Int.reduceToNat, rg_kIs, rg_kLs, rg_kRs, rg_kVs, rg_nns, rg_bs, cond_true, cond_false]
          rw [rg_nzs, if_neg (by omega), if_neg (by omega)]
          try simp only [rg_gI_0, Int.reduceToNat, rg_kIs, rg_kLs, rg_kRs, rg_kVs, rg_nns, rg_bs, cond_true, cond_false]
          rw [if_neg (by omega)]
          try simp only [rg_hp1, rg_o_0, Int.reduceToNat, rg_kIs, rg_kLs, rg_kRs, rg_kVs, rg_nns, rg_bs, cond_true, cond_false]
          rw [a1, ← hF]
          try simp only [Int.reduceToNat, rg_kIs, rg_kLs, rg_kRs, rg_kVs, rg_nns, rg_bs, cond_true, cond_false]
          rw [hnn]
          exact e
        have M0 : ∀ z T, rf_j_M_shortest_33 (d + 14) 77 (n : Int) (R : Int) 1 (hp X G) = some (some (.inl z), T) → rf_call (d + 15) 173 (.inr (.inr (some 77)) :: [.inl n0, .inl r]) (hp X G) = some (some (.inl z), T) := fun z T e => by
          rw [rf_e_M_shortest, rg_M_in]
          try simp only [Int.reduceToNat, rg_kIs, rg_kLs, rg_kRs, rg_kVs, rg_nns, rg_bs, cond_true, cond_false]
          rw [if_pos hn, if_neg (by decide), rg_M_isRow]
          try simp only [Int.reduceToNat, rg_kIs, rg_kLs, rg_kRs, rg_kVs, rg_nns, rg_bs, cond_true, cond_false]
          rw [if_pos hr, if_neg (by decide)]
          try simp only [rg_hp1, rg_o_77, Int.reduceToNat, rg_kIs, rg_kLs, rg_kRs, rg_kVs, rg_nns, rg_bs, cond_true, cond_false]
          rw [rg_M_isTrain, Gn 82 (by decide) (by omega) (by omega) (by decide), if_pos h0]
          try simp only [Int.reduceToNat, rg_kIs, rg_kLs, rg_kRs, rg_kVs, rg_nns, rg_bs, cond_true, cond_false]
          rw [if_neg (by decide), hnn, hRR]
          exact e
        have G82 : ∀ a, a ≠ 9 → a ≠ o → a ≠ o + 1 → (a < 70 ∨ 77 < a) → a ≠ 78 → a ≠ 79 → a ≠ 88 → a ≠ 89 → a ≠ 90 → H a = D a := fun a y1 y2 y3 y4 y5 y6 y7 y8 y9 => by rw [h1 a (by omega) y5 y6 y7 y8 y9, Gn a y1 y2 y3 (by omega)]
        have H77 : ∀ j, 8 ≤ j → j ≤ 11 → H 77 j = D 77 j := fun j y1 y2 => by rw [h2 j (by omega) (by omega), Gn 77 (by decide) (by omega) (by omega) (by decide)]
        have H8 : H 8 1 = D 8 1 := by rw [G82 8 (by decide) (by omega) (by omega) (by decide) (by decide) (by decide) (by decide) (by decide) (by decide)]
        have H10 : H 10 1 = D 10 1 := by rw [G82 10 (by decide) (by omega) (by omega) (by decide) (by decide) (by decide) (by decide) (by decide) (by decide)]
        have G78 : G 78 = D 78 := Gn 78 (by decide) (by omega) (by omega) (by decide)
        have G79 : G 79 = D 79 := Gn 79 (by decide) (by omega) (by omega) (by decide)
        cases hv : sh_v (D 82) n 1 with
        | none =>
          obtain ⟨w1, w2, w3⟩ := g2 hv
          obtain ⟨m1, m2, m3⟩ := h3 hv
          refine ⟨-9, G, H, W0 _ _ w1, M0 _ _ m1, hI.scr (fun a y1 y2 y3 y4 y5 y6 y7 => ?_) H8 H10 H77⟩
          by_cases z : a = o
          · rw [z, h1 o (by omega) (by omega) (by omega) (by omega) (by omega) (by omega), w2, Fn o (by omega)]
          · by_cases z1 : a = o + 1
            · rw [z1, h1 (o + 1) (by omega) (by omega) (by omega) (by omega) (by omega) (by omega), w3, Fn (o + 1) (by omega)]
            · by_cases z2 : a = 78
              · rw [z2, m2, G78]
              · by_cases z3 : a = 79
                · rw [z3, m3, G79]
                · exact G82 a y2 z z1 y6 z2 z3 (by omega) (by omega) (by omega)
        | some v =>
          obtain ⟨J, l⟩ := v
          obtain ⟨w1, w2, w3⟩ := g3 J l hv
          obtain ⟨m1, m2, m3, m4⟩ := h5 J l hv
          obtain ⟨ll, j1, jn⟩ := sh_len n 1 J l hv
          refine ⟨(J : Int), G, H, W0 _ _ w1, M0 _ _ m1, ?_⟩
          obtain ⟨K, hK⟩ : ∃ K : rf_D, K = fun a => if a = o ∨ a = o + 1 ∨ a = 78 ∨ a = 79 then H a else D a := ⟨_, rfl⟩
          have Ky : ∀ a, (a = o ∨ a = o + 1 ∨ a = 78 ∨ a = 79) → K a = H a := fun a y => by
            rw [hK]
            exact if_pos y
          have Kn : ∀ a, a ≠ o → a ≠ o + 1 → a ≠ 78 → a ≠ 79 → K a = D a := fun a y1 y2 y3 y4 => by
            rw [hK]
            exact if_neg (by omega)
          have Ho : H o = G o := h1 o (by omega) (by omega) (by omega) (by omega) (by omega) (by omega)
          have Ho1 : H (o + 1) = G (o + 1) := h1 (o + 1) (by omega) (by omega) (by omega) (by omega) (by omega) (by omega)
          have iK : Inv K := by
            refine hI.rowchg hR (fun a y1 y2 y3 y4 => Kn a (by omega) (by omega) y3 y4) (fun q z => ?_) (fun q z => ?_) ?_
            · rw [Ky 78 (by omega), m2, rg_ui_n z, G78]
            · rw [Ky 79 (by omega), m3 q z, G79]
            · rw [← ho, Ky 78 (by omega), Ky 79 (by omega), Ky o (by omega), Ky (o + 1) (by omega), Ho, Ho1, m2, rg_ui_s, w2]
              refine ⟨rfl, by omega, by omega, fun j hj => ?_⟩
              have jl : j < l.length := by omega
              have e := List.getElem?_eq_getElem jl
              rw [m4 j _ e, w3 j _ e]
              exact ⟨rfl, fun f => f.elim⟩
          refine iK.scr (fun a y1 y2 y3 y4 y5 y6 y7 => ?_) (by rw [H8, Kn 8 (by omega) (by omega) (by decide) (by decide)]) (by rw [H10, Kn 10 (by omega) (by omega) (by decide) (by decide)]) (fun j j1 j2 => by rw [H77 j j1 j2, Kn 77 (by omega) (by omega) (by decide) (by decide)])
          by_cases z : a = o ∨ a = o + 1 ∨ a = 78 ∨ a = 79
          · rw [Ky a z]
          · rw [Kn a (by omega) (by omega) (by omega) (by omega)]
            exact G82 a y2 (by omega) (by omega) y6 (by omega) (by omega) (by omega) (by omega) (by omega)
    · refine ⟨-1, D, D, ?_, ?_, hI⟩
      · rw [rf_e_W_shortest]
        try simp only [rg_gR_0_0, Int.reduceToNat, rg_kIs, rg_kLs, rg_kRs, rg_kVs, rg_nns, rg_bs, cond_true, cond_false]
        rw [rg_W_pick_y (n := 6) (d + 13) (rg_aL_1 X D) hr row.2]
        try simp only [Int.reduceToNat, rg_kIs, rg_kLs, rg_kRs, rg_kVs, rg_nns, rg_bs, cond_true, cond_false]
        rw [rg_nzs]
        by_cases b : n0 < 0
        · rw [if_pos b]
        · rw [if_neg b, if_pos (by omega)]
      · rw [rf_e_M_shortest, rg_M_in]
        try simp only [Int.reduceToNat, rg_kIs, rg_kLs, rg_kRs, rg_kVs, rg_nns, rg_bs, cond_true, cond_false]
        rw [if_neg hn, if_pos (by decide)]
  · refine ⟨-1, D, D, ?_, ?_, hI⟩
    · rw [rf_e_W_shortest]
      try simp only [rg_gR_0_0, Int.reduceToNat, rg_kIs, rg_kLs, rg_kRs, rg_kVs, rg_nns, rg_bs, cond_true, cond_false]
      rw [rg_W_pick_n (n := 6) (d + 13) (rg_aL_1 X D) hr]
      try simp only [Int.reduceToNat, rg_kIs, rg_kLs, rg_kRs, rg_kVs, rg_nns, rg_bs, cond_true, cond_false]
      rw [rg_nzn]
    · rw [rf_e_M_shortest, rg_M_in]
      try simp only [Int.reduceToNat, rg_kIs, rg_kLs, rg_kRs, rg_kVs, rg_nns, rg_bs, cond_true, cond_false]
      by_cases hn : 0 ≤ n0 ∧ n0 ≤ 4
      · rw [if_pos hn, if_neg (by decide), rg_M_isRow]
        try simp only [Int.reduceToNat, rg_kIs, rg_kLs, rg_kRs, rg_kVs, rg_nns, rg_bs, cond_true, cond_false]
        rw [if_neg hr, if_pos (by decide)]
      · rw [if_neg hn, if_pos (by decide)]
end RGS45
