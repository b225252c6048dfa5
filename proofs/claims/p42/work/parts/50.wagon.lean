/-! wagon, engine: what each tells -/
section RGS14
variable {X : rf_X} {D : rf_D} {s : Nat → Int} {W : Int}
theorem cr_at {D : rf_D} (hC : CR D 28 s W) (hd : sp_hd s) {n : Nat} (iW : (n : Int) < W) : (D 32 n = sp_kind s (n : Int) ∧ D 34 n = sp_tons s (n : Int) ∧ D 36 n = sp_coup s (n : Int)) ∧ (0 ≤ sp_kind s (n : Int) ∧ sp_kind s (n : Int) ≤ 5) ∧ (0 ≤ sp_tons s (n : Int) ∧ sp_tons s (n : Int) ≤ 9) ∧ (0 ≤ sp_coup s (n : Int) ∧ sp_coup s (n : Int) ≤ 9) := by
  have hW := hC.2.2.2.1
  have q := hC.2.2.2.2.1 n iW
  have hw := hd.2.2.2.2 n (by omega)
  unfold sp_kind sp_tons sp_coup
  rw [show (9 + 3 * (n : Int)).toNat = 9 + 3 * n by omega, show (9 + 3 * (n : Int) + 1).toNat = 10 + 3 * n by omega, show (9 + 3 * (n : Int) + 2).toNat = 11 + 3 * n by omega]
  exact ⟨⟨q.1, q.2.1, q.2.2.1⟩, hw.1, hw.2.1, hw.2.2⟩
theorem cr_w (hC : CR D 28 s W) (hd : sp_hd s) (d : Nat) {n : Nat} (iW : (n : Int) < W) (hb : s 31 = 0 ∨ s 31 = 1) : rf_call (d + 2) 24 [.inr (.inr (some 28)), .inl (n : Int), .inl (s 31)] (hp X D) = some (some (.inl (sp_weighs s (n : Int))), hp X D) := by
  obtain ⟨⟨a1, a2, a3⟩, b1, b2, b3⟩ := cr_at hC hd iW
  have c2 : D 28 10 = s 1 := hC.1.2.1
  obtain ⟨w1, w2, w3, w4, w5, w6⟩ := hC.2.2.1
  have W6 := hC.2.2.2.1.2
  rw [sp_wt_eq (by omega) b2.1 b2.2 hd.2.1.1 hd.2.1.2]
  have r := rg_C_weighs (X := X) (D := D) rg_con_28 d (i := (n : Int)) (b := s 31) (k := sp_kind s (n : Int)) (t := sp_tons s (n : Int)) (by omega) (by rw [w1]; exact iW) (by rw [w1]; exact W6) (by rw [rg_tN]; exact a1) (by rw [w2]; exact W6) (by rw [w2]; exact iW) (by rw [rg_tN]; exact a2) b2.1 b2.2 (by rw [c2]; exact hd.2.1.1) (by rw [c2]; exact hd.2.1.2) hb
  rw [c2] at r
  exact r
theorem cr_h (hC : CR D 28 s W) (hd : sp_hd s) (d : Nat) {n : Nat} (iW : (n : Int) < W) : rf_call (d + 3) 21 [.inr (.inr (some 28)), .inl (n : Int)] (hp X D) = some (some (.inl (sp_holds s (n : Int))), hp X D) := by
  obtain ⟨⟨a1, a2, a3⟩, b1, b2, b3⟩ := cr_at hC hd iW
  obtain ⟨w1, w2, w3, w4, w5, w6⟩ := hC.2.2.1
  have W6 := hC.2.2.2.1.2
  exact rg_C_holds (X := X) (D := D) rg_con_28 d (i := (n : Int)) (k := sp_kind s (n : Int)) (v := sp_coup s (n : Int)) (by omega) (by rw [w1]; exact iW) (by rw [w1]; exact W6) (by rw [rg_tN]; exact a1) (by rw [w3]; exact W6) (by rw [w3]; exact iW) (by rw [rg_tN]; exact a3)
theorem cr_s (hC : CR D 28 s W) (hd : sp_hd s) (d : Nat) {n : Nat} (iW : (n : Int) < W) : rf_call (d + 3) 23 [.inr (.inr (some 28)), .inl (n : Int)] (hp X D) = some (some (.inl (sp_slack s (n : Int))), hp X D) := by
  obtain ⟨⟨a1, a2, a3⟩, b1, b2, b3⟩ := cr_at hC hd iW
  obtain ⟨w1, w2, w3, w4, w5, w6⟩ := hC.2.2.1
  have W6 := hC.2.2.2.1.2
  have r := rg_C_slack (X := X) (D := D) rg_con_28 d (i := (n : Int)) (k := sp_kind s (n : Int)) (by omega) (by rw [w1]; exact iW) (by rw [w1]; exact W6) (by rw [rg_tN]; exact a1)
  rw [r]
  unfold sp_slack
  by_cases z : sp_kind s (n : Int) = 2
  · rw [if_pos (Or.inl z), if_pos z]
  · rw [if_neg z]
    by_cases z5 : sp_kind s (n : Int) = 5
    · rw [if_pos (Or.inr z5), if_pos z5]
    · rw [if_neg (fun y => y.elim z z5), if_neg z5]
theorem cr_k (hC : CR D 28 s W) (hd : sp_hd s) (d : Nat) {n : Nat} (iW : (n : Int) < W) : rf_call (d + 1) 4 [.inr (.inr (some 31)), .inl (n : Int)] (hp X D) = some (some (.inl (sp_kind s (n : Int))), hp X D) := by
  obtain ⟨⟨a1, a2, a3⟩, -⟩ := cr_at hC hd iW
  obtain ⟨w1, w2, w3, w4, w5, w6⟩ := hC.2.2.1
  have W6 := hC.2.2.2.1.2
  rw [rg_R_cellI rg_row_31 d (by omega) (by rw [show D 31 1 = W from w1]; exact iW) (by rw [show D 31 1 = W from w1]; exact W6), rg_tN]
  rw [show D (31 + 1) n = sp_kind s (n : Int) from a1]
theorem cr_t (hC : CR D 28 s W) (hd : sp_hd s) (d : Nat) {n : Nat} (iW : (n : Int) < W) : rf_call (d + 1) 4 [.inr (.inr (some 33)), .inl (n : Int)] (hp X D) = some (some (.inl (sp_tons s (n : Int))), hp X D) := by
  obtain ⟨⟨a1, a2, a3⟩, -⟩ := cr_at hC hd iW
  obtain ⟨w1, w2, w3, w4, w5, w6⟩ := hC.2.2.1
  have W6 := hC.2.2.2.1.2
  rw [rg_R_cellI rg_row_33 d (by omega) (by rw [show D 33 1 = W from w2]; exact iW) (by rw [show D 33 1 = W from w2]; exact W6), rg_tN]
  rw [show D (33 + 1) n = sp_tons s (n : Int) from a2]
theorem cr_c (hC : CR D 28 s W) (hd : sp_hd s) (d : Nat) {n : Nat} (iW : (n : Int) < W) : rf_call (d + 1) 4 [.inr (.inr (some 35)), .inl (n : Int)] (hp X D) = some (some (.inl (sp_coup s (n : Int))), hp X D) := by
  obtain ⟨⟨a1, a2, a3⟩, -⟩ := cr_at hC hd iW
  obtain ⟨w1, w2, w3, w4, w5, w6⟩ := hC.2.2.1
  have W6 := hC.2.2.2.1.2
  rw [rg_R_cellI rg_row_35 d (by omega) (by rw [show D 35 1 = W from w3]; exact iW) (by rw [show D 35 1 = W from w3]; exact W6), rg_tN]
  rw [show D (35 + 1) n = sp_coup s (n : Int) from a3]
theorem cr_is (hC : CR D 28 s W) (hd : sp_hd s) (d : Nat) {n : Nat} (iW : (n : Int) < W) (a : Int) : rf_call (d + 2) 22 [.inr (.inr (some 28)), .inl (n : Int), .inl a] (hp X D) = some (some (.inl (if sp_kind s (n : Int) = a ∨ (a = 1 ∧ sp_kind s (n : Int) = 4) ∨ (a = 2 ∧ sp_kind s (n : Int) = 5) then 1 else 0)), hp X D) := by
  obtain ⟨⟨a1, a2, a3⟩, -⟩ := cr_at hC hd iW
  obtain ⟨w1, w2, w3, w4, w5, w6⟩ := hC.2.2.1
  have W6 := hC.2.2.2.1.2
  exact rg_C_isOf (X := X) (D := D) rg_con_28 d (i := (n : Int)) (by omega) (by rw [w1]; exact iW) (by rw [w1]; exact W6) (by rw [rg_tN]; exact a1)
/-- what is told of a wagon -/
def wf_v (A : Nat → Int) (i w : Int) : Int := if w = 0 then sp_kind A i else if w = 1 then sp_tons A i else if w = 2 then sp_weighs A i else if w = 3 then sp_holds A i else if w = 4 then sp_slack A i else if i < A 33 then 1 else 0
theorem rg_W_wf (hC : CR D 28 s W) (hd : sp_hd s) (hT : TR (D 43) s 0) (hb : s 31 = 0 ∨ s 31 = 1) (d : Nat) {n : Nat} (iW : (n : Int) < W) (w : Int) : rf_call (d + 4) 72 [.inr (.inr (some 0)), .inl (n : Int), .inl w] (hp X D) = some (some (.inl (wf_v s (n : Int) w)), hp X D) := by
  rw [rf_e_W_wagonFact]
  unfold wf_v
  by_cases a0 : w = 0
  · rw [if_pos a0, if_pos a0]
    try simp only [rg_gR_0_9, rg_gR_28_1, rg_hp1, rg_row_o rg_row_31, Int.reduceToNat, rg_kIs, rg_kLs, rg_kRs, rg_kVs, rg_nns, rg_bs, cond_true, cond_false]
    rw [cr_k hC hd (d + 2) iW]
    try simp only [Int.reduceToNat, rg_kIs, rg_kLs, rg_kRs, rg_kVs, rg_nns, rg_bs, cond_true, cond_false]
  · rw [if_neg a0, if_neg a0]
    by_cases a1 : w = 1
    · rw [if_pos (show w = 0 + 1 from a1), if_pos a1]
      try simp only [rg_gR_0_9, rg_gR_28_2, rg_hp1, rg_row_o rg_row_33, Int.reduceToNat, rg_kIs, rg_kLs, rg_kRs, rg_kVs, rg_nns, rg_bs, cond_true, cond_false]
      rw [cr_t hC hd (d + 2) iW]
      try simp only [Int.reduceToNat, rg_kIs, rg_kLs, rg_kRs, rg_kVs, rg_nns, rg_bs, cond_true, cond_false]
    · rw [if_neg (show ¬ w = 0 + 1 from a1), if_neg a1]
      by_cases a2 : w = 2
      · rw [if_pos (show w = 0 + 1 + 1 from a2), if_pos a2]
        try simp only [rg_gR_0_9, rg_gR_0_10, rg_T_gI rg_tr_43, rg_hp1, rg_con_28.1, Int.reduceToNat, rg_kIs, rg_kLs, rg_kRs, rg_kVs, rg_nns, rg_bs, cond_true, cond_false]
        rw [hT.2.1.2.1, cr_w hC hd (d + 1) iW hb]
        try simp only [Int.reduceToNat, rg_kIs, rg_kLs, rg_kRs, rg_kVs, rg_nns, rg_bs, cond_true, cond_false]
      · rw [if_neg (show ¬ w = 0 + 1 + 1 from a2), if_neg a2]
        by_cases a3 : w = 3
        · rw [if_pos (show w = 0 + 1 + 1 + 1 from a3), if_pos a3]
          try simp only [rg_gR_0_9, rg_hp1, rg_con_28.1, Int.reduceToNat, rg_kIs, rg_kLs, rg_kRs, rg_kVs, rg_nns, rg_bs, cond_true, cond_false]
          rw [cr_h hC hd d iW]
          try simp only [Int.reduceToNat, rg_kIs, rg_kLs, rg_kRs, rg_kVs, rg_nns, rg_bs, cond_true, cond_false]
        · rw [if_neg (show ¬ w = 0 + 1 + 1 + 1 from a3), if_neg a3]
          by_cases a4 : w = 4
          · rw [if_pos (show w = 0 + 1 + 1 + 1 + 1 from a4), if_pos a4]
            try simp only [rg_gR_0_9, rg_hp1, rg_con_28.1, Int.reduceToNat, rg_kIs, rg_kLs, rg_kRs, rg_kVs, rg_nns, rg_bs, cond_true, cond_false]
            rw [cr_s hC hd d iW]
            try simp only [Int.reduceToNat, rg_kIs, rg_kLs, rg_kRs, rg_kVs, rg_nns, rg_bs, cond_true, cond_false]
          · rw [if_neg (show ¬ w = 0 + 1 + 1 + 1 + 1 from a4), if_neg a4]
            try simp only [rg_gR_0_10, rg_T_gI rg_tr_43, Int.reduceToNat, rg_kIs, rg_kLs, rg_kRs, rg_kVs, rg_nns, rg_bs, cond_true, cond_false]
            rw [hT.2.2.1]
            by_cases a5 : (n : Int) < s 33
            · rw [if_pos a5, if_pos a5]
            · rw [if_neg a5, if_neg a5]
theorem E37.kind {u s : Nat → Int} (h : E37 u s) {i : Int} (h1 : i ≤ 6) : sp_kind u i = sp_kind s i ∧ sp_tons u i = sp_tons s i ∧ sp_coup u i = sp_coup s i := by
  unfold sp_kind sp_tons sp_coup
  exact ⟨h _ (by omega), h _ (by omega), h _ (by omega)⟩
theorem E37.wt {u s : Nat → Int} (h : E37 u s) {i : Int} (h1 : i ≤ 6) : sp_weighs u i = sp_weighs s i ∧ sp_holds u i = sp_holds s i ∧ sp_slack u i = sp_slack s i := by
  obtain ⟨k1, k2, k3⟩ := h.kind h1
  unfold sp_weighs sp_plain sp_holds sp_slack
  rw [k1, k2, k3, h 31 (by decide), h 1 (by decide)]
  exact ⟨rfl, rfl, rfl⟩
theorem E37.wf {u s : Nat → Int} (h : E37 u s) {i : Int} (h1 : i ≤ 6) (w : Int) : wf_v u i w = wf_v s i w := by
  obtain ⟨k1, k2, k3⟩ := h.kind h1
  obtain ⟨k4, k5, k6⟩ := h.wt h1
  unfold wf_v
  rw [k1, k2, k4, k5, k6, h 33 (by decide)]
/-- what is told of the engine -/
def en_v (A : Nat → Int) (w : Int) : Int := if w = 0 then A 0 else if w = 1 then A 27 else if w = 2 then A 28 else if w = 3 then A 1 else if w = 4 then A 29 else if w = 5 then A 30 else if w = 6 then A 31 else if w = 7 then A 33 else if w = 8 then A 34 else A 35
theorem rg_W_ef (hC : CR D 28 s W) (hT : TR (D 43) s 0) (h30 : s 30 = 0 ∨ s 30 = 1) (h31 : s 31 = 0 ∨ s 31 = 1) (d : Nat) (w : Int) : rf_call (d + 1) 76 [.inr (.inr (some 0)), .inl w] (hp X D) = some (some (.inl (en_v s w)), hp X D) := by
  obtain ⟨⟨t2, t3, t4⟩, ⟨t9, t10, t11⟩, t5, t8, t7, t6⟩ := hT
  obtain ⟨c7, c10, -⟩ := hC.1
  rw [rf_e_W_engineFact]
  unfold en_v
  try simp only [rg_gR_0_9, rg_gR_0_10, rg_T_gI rg_tr_43, rg_gI_28, Int.reduceToNat, rg_kIs, rg_kLs, rg_kRs, rg_kVs, rg_nns, rg_bs, cond_true, cond_false]
  by_cases a0 : w = 0
  · rw [if_pos a0, if_pos a0, c7]
  · rw [if_neg a0, if_neg a0]
    by_cases a1 : w = 1
    · rw [if_pos (show w = 0 + 1 from a1), if_pos a1, t2]
    · rw [if_neg (show ¬ w = 0 + 1 from a1), if_neg a1]
      by_cases a2 : w = 2
      · rw [if_pos (show w = 0 + 1 + 1 from a2), if_pos a2, t3]
      · rw [if_neg (show ¬ w = 0 + 1 + 1 from a2), if_neg a2]
        by_cases a3 : w = 3
        · rw [if_pos (show w = 0 + 1 + 1 + 1 from a3), if_pos a3, c10]
        · rw [if_neg (show ¬ w = 0 + 1 + 1 + 1 from a3), if_neg a3]
          by_cases a4 : w = 4
          · rw [if_pos (show w = 0 + 1 + 1 + 1 + 1 from a4), if_pos a4, t4]
          · rw [if_neg (show ¬ w = 0 + 1 + 1 + 1 + 1 from a4), if_neg a4]
            by_cases a5 : w = 5
            · rw [if_pos (show w = 0 + 1 + 1 + 1 + 1 + 1 from a5), if_pos a5, t9]
              rcases h30 with z | z
              · rw [z, if_pos (by decide)]
              · rw [z, if_neg (by decide)]
            · rw [if_neg (show ¬ w = 0 + 1 + 1 + 1 + 1 + 1 from a5), if_neg a5]
              by_cases a6 : w = 6
              · rw [if_pos (show w = 0 + 1 + 1 + 1 + 1 + 1 + 1 from a6), if_pos a6, t10]
                rcases h31 with z | z
                · rw [z, if_pos (by decide)]
                · rw [z, if_neg (by decide)]
              · rw [if_neg (show ¬ w = 0 + 1 + 1 + 1 + 1 + 1 + 1 from a6), if_neg a6]
                by_cases a7 : w = 7
                · rw [if_pos (show w = 0 + 1 + 1 + 1 + 1 + 1 + 1 + 1 from a7), if_pos a7, t5]
                · rw [if_neg (show ¬ w = 0 + 1 + 1 + 1 + 1 + 1 + 1 + 1 from a7), if_neg a7]
                  by_cases a8 : w = 8
                  · rw [if_pos (show w = 0 + 1 + 1 + 1 + 1 + 1 + 1 + 1 + 1 from a8), if_pos a8, t8]
                  · rw [if_neg (show ¬ w = 0 + 1 + 1 + 1 + 1 + 1 + 1 + 1 + 1 from a8), if_neg a8, t7, Int.sub_zero]
end RGS14
