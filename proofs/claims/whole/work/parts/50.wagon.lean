/-! wagon, engine: what each tells -/
section RGS14
variable {X : rf_X} {D : rf_D} {s : Nat → Int} {W : Int}
theorem cr_at {D : rf_D} (hC : CR D 28 s W) (hd : sp_hd s) {n : Nat} (iW : (n : Int) < W) : (D 32 n = sp_kind s (n : Int) ∧ D 34 n = sp_tons s (n : Int) ∧ D 36 n = sp_coup s (n : Int)) ∧ (0 ≤ sp_kind s (n : Int) ∧ sp_kind s (n : Int) ≤ 5) ∧ (0 ≤ sp_tons s (n : Int) ∧ sp_tons s (n : Int) ≤ 9) ∧ (0 ≤ sp_coup s (n : Int) ∧ sp_coup s (n : Int) ≤ 9) := by
  have hW := hC.2.2.2.1
  have q := hC.2.2.2.2.1 n iW
  have hw := hd.2.2.2.2 n (by omega)
  unfold sp_kind sp_tons sp_coup
  rw [show (9 + 3 * (n : Int)).toNat = 9 + 3 * n by omega, show (9 + 3 * (n : Int) + 1).toNat = 10 + 3 * n by omega, show (9 + 3 * (n : Int) + 2).toNat = 11 + 3 * n by omega]
  exact ⟨⟨q.1, q.2.1, q.2.2.1⟩, hw.1, hw.2.1, hw.2.2⟩
theorem cr_w (hC : CR D 28 s W) (hd : sp_hd s) (d : Nat) {n : Nat} (iW : (n : Int) < W) (hb : s 31 = 0 ∨ s 31 = 1) : rf_call (d + 2) 24 [.inr (.inr (some 28)), .inl (n : Int), .inl (s 31)] (hp X D) = some (some (.inl (sp_weighs s (n : Int))), hp X D) := by
  obtain ⟨⟨a1, a2, a3⟩, b1, b2, b3⟩ := cr_at hC hd iW
  have c2 : D 28 10 = s 1 := hC.1.2.1
  obtain ⟨w1, w2, w3, w4, w5, w6⟩ := hC.2.2.1
  have W6 := hC.2.2.2.1.2
  rw [sp_wt_eq (by omega) b2.1 b2.2 hd.2.1.1 hd.2.1.2]
  have r := rg_C_weighs (X := X) (D := D) rg_con_28 d (i := (n : Int)) (b := s 31) (k := sp_kind s (n : Int)) (t := sp_tons s (n : Int)) (by omega) (by rw [w1]; exact iW) (by rw [w1]; exact W6) (by rw [rg_tN]; exact a1) (by rw [w2]; exact W6) (by rw [w2]; exact iW) (by rw [rg_tN]; exact a2) b2.1 b2.2 (by rw [c2]; exact hd.2.1.1) (by rw [c2]; exact hd.2.1.2) hb
  rw [c2] at r
  exact r
theorem cr_h (hC : CR D 28 s W) (hd : sp_hd s) (d : Nat) {n : Nat} (iW : (n : Int) < W) : rf_call (d + 3) 21 [.inr (.inr (some 28)), .inl (n : Int)] (hp X D) = some (some (.inl (sp_holds s (n : Int))), hp X D) := by
  obtain ⟨⟨a1, a2, a3⟩, b1, b2, b3⟩ := cr_at hC hd iW
  obtain ⟨w1, w2, w3, w4, w5, w6⟩ := hC.2.2.1
  have W6 := hC.2.2.2.1.2
  exact rg_C_holds (X := X) (D := D) rg_con_28 d (i := (n : Int)) (k := sp_kind s (n : Int)) (v := sp_coup s (n : Int)) (by omega) (by rw [w1]; exact iW) (by rw [w1]; exact W6) (by rw [rg_tN]; exact a1) (by rw [w3]; exact W6) (by rw [w3]; exact iW) (by rw [rg_tN]; exact a3)
theorem cr_s (hC : CR D 28 s W) (hd : sp_hd s) (d : Nat) {n : Nat} (iW : (n : Int) < W) : rf_call (d + 3) 23 [.inr (.inr (some 28)), .inl (n : Int)] (hp X D) = some (some (.inl (sp_slack s (n : Int))), hp X D) := by
  obtain ⟨⟨a1, a2, a3⟩, b1, b2, b3⟩ := cr_at hC hd iW
  obtain ⟨w1, w2, w3, w4, w5, w6⟩ := hC.2.2.1
  have W6 := hC.2.2.2.1.2
  have r := rg_C_slack (X := X) (D := D) rg_con_28 d (i := (n : Int)) (k := sp_kind s (n : Int)) (by omega) (by rw [w1]; exact iW) (by rw [w1]; exact W6) (by rw [rg_tN]; exact a1)
  rw [r]
  unfold sp_slack
  by_cases z : sp_kind s (n : Int) = 2
  · rw [if_pos (Or.inl z), if_pos z]
  · rw [if_neg z]
    by_cases z5 : sp_kind s (n : Int) = 5
    · rw [if_pos (Or.inr z5), if_pos z5]
    · rw [if_neg (fun y => y.elim z z5), if_neg z5]
theorem cr_k (hC : CR D 28 s W) (hd : sp_hd s) (d : Nat) {n : Nat} (iW : (n : Int) < W) : rf_call (d + 1) 4 [.inr (.inr (some 31)), .inl (n : Int)] (hp X D) = some (some (.inl (sp_kind s (n : Int))), hp X D) := by
  obtain ⟨⟨a1, a2, a3⟩, -⟩ := cr_at hC hd iW
  obtain ⟨w1, w2, w3, w4, w5, w6⟩ := hC.2.2.1
  have W6 := hC.2.2.2.1.2
  rw [rg_R_cellI rg_row_31 d (by omega) (by rw [show D 31 1 = W from w1]; exact iW) (by rw [show D 31 1 = W from w1]; exact W6), rg_tN]
  rw [show D (31 + 1) n = sp_kind s (n : Int) from a1]
theorem cr_t (hC : CR D 28 s W) (hd : sp_hd s) (d : Nat) {n : Nat} (iW : (n : Int) < W) : rf_call (d + 1) 4 [.inr (.inr (some 33)), .inl (n : Int)] (hp X D) = some (some (.inl (sp_tons s (n : Int))), hp X D) := by
  obtain ⟨⟨a1, a2, a3⟩, -⟩ := cr_at hC hd iW
  obtain ⟨w1, w2, w3, w4, w5, w6⟩ := hC.2.2.1
  have W6 := hC.2.2.2.1.2
  rw [rg_R_cellI rg_row_33 d (by omega) (by rw [show D 33 1 = W from w2]; exact iW) (by rw [show D 33 1 = W from w2]; exact W6), rg_tN]
  rw [show D (33 + 1) n = sp_tons s (n : Int) from a2]
theorem cr_c (hC : CR D 28 s W) (hd : sp_hd s) (d : Nat) {n : Nat} (iW : (n : Int) < W) : rf_call (d + 1) 4 [.inr (.inr (some 35)), .inl (n : Int)] (hp X D) = some (some (.inl (sp_coup s (n : Int))), hp X D) := by
  obtain ⟨⟨a1, a2, a3⟩, -⟩ := cr_at hC hd iW
  obtain ⟨w1, w2, w3, w4, w5, w6⟩ := hC.2.2.1
  have W6 := hC.2.2.2.1.2
  rw [rg_R_cellI rg_row_35 d (by omega) (by rw [show D 35 1 = W from w3]; exact iW) (by rw [show D 35 1 = W from w3]; exact W6), rg_tN]
  rw [show D (35 + 1) n = sp_coup s (n : Int) from a3]
theorem cr_is (hC : CR D 28 s W) (hd : sp_hd s) (d : Nat) {n : Nat} (iW : (n : Int) < W) (a : Int) : rf_call (d + 2) 22 [.inr (.inr (some 28)), .inl (n : Int), .inl a] (hp X D) = some (some (.inl (if sp_kind s (n : Int) = a ∨ (a = 1 ∧ sp_kind s (n : Int) = 4) ∨ (a = 2 ∧ sp_kind s (n : Int) = 5) then 1 else 0)), hp X D) := by
  obtain ⟨⟨a1, a2, a3⟩, -⟩ := cr_at hC hd iW
  obtain ⟨w1, w2, w3, w4, w5, w6⟩ := hC.2.2.1
  have W6 := hC.2.2.2.1.2
  exact rg_C_isOf (X := X) (D := D) rg_con_28 d (i := (n : Int)) (by omega) (by rw [w1]; exact iW) (by rw [w1]; exact W6) (by rw [rg_tN]; exact a1)
/-- what is told of a wagon -/
def wf_v (A : Nat → Int) (i w : Int) : Int := if w = 0 then sp_kind A i else if w = 1 then sp_tons A i else if w = 2 then sp_weighs A i else if w = 3 then sp_holds A i else if w = 4 then sp_slack A i else if i < A 33 then 1 else 0
theorem rg_W_wf (hC : CR D 28 s W) (hd : sp_hd s) (hT : TR (D 43) s 0) (hb : s 31 = 0 ∨ s 31 = 1) (d : Nat) {n : Nat} (iW : (n : Int) < W) (w : Int) : rf_call (d + 4) 72 [.inr (.inr (some 0)), .inl (n : Int), .inl w] (hp X D) = some (some (.inl (wf_v s (n : Int) w)), hp X D) := by
  rw [rf_e_W_wagonFact]
  unfold wf_v
  by_cases a0 : w = 0
  · rw [if_pos a0, if_pos a0]
    try simp only [rg_gR_0_9, rg_gR_28_1, rg_hp1, rg_row_o rg_row_31, Int.reduceToNat, rg_kIs, rg_kLs, rg_kRs, rg_kVs, rg_nns, rg_bs, cond_true, cond_false]
    rw [cr_k hC hd (d + 2) iW]
    try simp only [Int.reduceToNat, rg_kIs, rg_kLs, rg_kRs, rg_kVs, rg_nns, rg_bs, cond_true, cond_false]
  · rw [if_neg a0, if_neg a0]
    by_cases a1 : w = 1
    · rw [if_pos (show w = 0 + 1 from a1), if_pos a1]
      try simp only [rg_gR_0_9, rg_gR_28_2, rg_hp1, rg_row_o rg_row_33, Int.reduceToNat, rg_kIs, rg_kLs, rg_kRs, rg_kVs, rg_nns, rg_bs, cond_true, cond_false]
      rw [cr_t hC hd (d + 2) iW]
      try simp only [Int.reduceToNat, rg_kIs, rg_kLs, rg_kRs, rg_kVs, rg_nns, rg_bs, cond_true, cond_false]
    · rw [if_neg (show ¬ w = 0 + 1 from a1), if_neg a1]
      by_cases a2 : w = 2
      · rw [if_pos (show w = 0 + 1 + 1 from a2), if_pos a2]
        try simp only [rg_gR_0_9, rg_gR_0_10, rg_T_gI rg_tr_43, rg_hp1, rg_con_28.1, Int.reduceToNat, rg_kIs, rg_kLs, rg_kRs, rg_kVs, rg_nns, rg_bs, cond_true, cond_false]
        rw [hT.2.1.2.1, cr_w hC hd (d + 1) iW hb]
        try simp only [Int.reduceToNat, rg_kIs, rg_kLs, rg_kRs, rg_kVs, rg_nns, rg_bs, cond_true, cond_false]
      · rw [if_neg (show ¬ w = 0 + 1 + 1 from a2), if_neg a2]
        by_cases a3 : w = 3
        · rw [if_pos (show w = 0 + 1 + 1 + 1 from a3), if_pos a3]
          try simp only [rg_gR_0_9, rg_hp1, rg_con_28.1, Int.reduceToNat, rg_kIs, rg_kLs, rg_kRs, rg_kVs, rg_nns, rg_bs, cond_true, cond_false]
          rw [cr_h hC hd d iW]
          try simp only [Int.reduceToNat, rg_kIs, rg_kLs, rg_kRs, rg_kVs, rg_nns, rg_bs, cond_true, cond_false]
        · rw [if_neg (show ¬ w = 0 + 1 + 1 + 1 from a3), if_neg a3]
          by_cases a4 : w = 4
          · rw [if_pos (show w = 0 + 1 + 1 + 1 + 1 from a4), if_pos a4]
            try simp only [rg_gR_0_9, rg_hp1, rg_con_28.1, Int.reduceToNat, rg_kIs, rg_kLs, rg_kRs, rg_kVs, rg_nns, rg_bs, cond_true, cond_false]
            rw [cr_s hC hd d iW]
            try simp only [Int.reduceToNat, rg_kIs, rg_kLs, rg_kRs, rg_kVs, rg_nns, rg_bs, cond_true, cond_false]
          · rw [if_neg (show ¬ w = 0 + 1 + 1 + 1 + 1 from a4), if_neg a4]
            try simp only [rg_gR_0_10, rg_T_gI rg_tr_43, Int.reduceToNat, rg_kIs, rg_kLs, rg_kRs, rg_kVs, rg_nns, rg_bs, cond_true, cond_false]
            rw [hT.2.2.1]
            by_cases a5 : (n : Int) < s 33
            · rw [if_pos a5, if_pos a5]
            · rw [if_neg a5, if_neg a5]
theorem E37.kind {u s : Nat → Int} (h : E37 u s) {i : Int} (h1 : i ≤ 6) : sp_kind u i = sp_kind s i ∧ sp_tons u i = sp_tons s i ∧ sp_coup u i = sp_coup s i := by
  unfold sp_kind sp_tons sp_coup
  exact ⟨h _ (by omega), h _ (by omega), h _ (by omega)⟩
theorem E37.wt {u s : Nat → Int} (h : E37 u s) {i : Int} (h1 : i ≤ 6) : sp_weighs u i = sp_weighs s i ∧ sp_holds u i = sp_holds s i ∧ sp_slack u i = sp_slack s i := by
  obtain ⟨k1, k2, k3⟩ := h.kind h1
  unfold sp_weighs sp_plain sp_holds sp_slack
  rw [k1, k2, k3, h 31 (by decide), h 1 (by decide)]
  exact ⟨rfl, rfl, rfl⟩
theorem E37.wf {u s : Nat → Int} (h : E37 u s) {i : Int} (h1 : i ≤ 6) (w : Int) : wf_v u i w = wf_v s i w := by
  obtain ⟨k1, k2, k3⟩ := h.kind h1
  obtain ⟨k4, k5, k6⟩ := h.wt h1
  unfold wf_v
  rw [k1, k2, k4, k5, k6, h 33 (by decide)]
theorem rg_mt88 {v : Int} {D : rf_D} {f : Nat → Int} : mtl v (rg_up D 88 f) = rg_up (mtl v D) 88 f := by
  unfold mtl
  rw [rg_up_c (show (88 : Nat) ≠ 77 by decide), rg_up_n (show (77 : Nat) ≠ 88 by decide)]
theorem rg_M_wag_79 (d : Nat) {n : Nat} (hn : n < 6) {w v : Int} (h0 : 0 ≤ w) (hv : 2 < w → v = wf_v (D 88) (n : Int) w) : rf_j_M_wagon_79 (d + 3) 77 (n : Int) w v (hp X D) = some (some (.inl 1), hp X (mtl (wf_v (D 88) (n : Int) w) D)) := by
  rw [rf_e_M_wagon_79]
  by_cases a : w < 2
  · have x1 : rf_w (rf_w (9 + rf_w (3 * (n : Int))) + w) = 9 + 3 * (n : Int) + w := by
      rw [rg_w (z := 3 * (n : Int)) (by omega) (by omega), rg_w (z := 9 + 3 * (n : Int)) (by omega) (by omega), rg_w (by omega) (by omega)]
    rw [if_pos a]
    try simp only [rg_gR_77_17, Int.reduceToNat, rg_kIs, rg_kLs, rg_kRs, rg_kVs, rg_nns, rg_bs, cond_true, cond_false, x1]
    rw [rg_aI_88 (by omega) (by omega)]
    try simp only [rg_hp1, rg_o_77, Int.reduceToNat, rg_kIs, rg_kLs, rg_kRs, rg_kVs, rg_nns, rg_bs, cond_true, cond_false]
    rw [rg_M_tells]
    try simp only [Int.reduceToNat, rg_kIs, rg_kLs, rg_kRs, rg_kVs, rg_nns, rg_bs, cond_true, cond_false]
    unfold wf_v
    by_cases a0 : w = 0
    · rw [if_pos a0, a0]
      unfold sp_kind
      rw [show 9 + 3 * (n : Int) + 0 = 9 + 3 * (n : Int) by omega]
    · rw [if_neg a0, if_pos (by omega), show w = 1 by omega]
      try rfl
  · rw [if_neg a]
    by_cases b : w = 2
    · rw [if_pos b]
      try simp only [rg_hp1, rg_o_77, Int.reduceToNat, rg_kIs, rg_kLs, rg_kRs, rg_kVs, rg_nns, rg_bs, cond_true, cond_false]
      rw [rg_M_weighs (d + 1) (by omega) (by omega)]
      try simp only [rg_hp1, rg_o_77, Int.reduceToNat, rg_kIs, rg_kLs, rg_kRs, rg_kVs, rg_nns, rg_bs, cond_true, cond_false]
      rw [rg_M_tells]
      try simp only [Int.reduceToNat, rg_kIs, rg_kLs, rg_kRs, rg_kVs, rg_nns, rg_bs, cond_true, cond_false]
      unfold wf_v
      rw [if_neg (by omega), if_neg (by omega), if_pos b]
    · rw [if_neg b]
      try simp only [rg_hp1, rg_o_77, Int.reduceToNat, rg_kIs, rg_kLs, rg_kRs, rg_kVs, rg_nns, rg_bs, cond_true, cond_false]
      rw [rg_M_tells, hv (by omega)]
      try simp only [Int.reduceToNat, rg_kIs, rg_kLs, rg_kRs, rg_kVs, rg_nns, rg_bs, cond_true, cond_false]
theorem rg_M_wagY (d : Nat) (h36 : D 82 36 ≤ 6) {n : Nat} (hn : (n : Int) < D 82 36) {w : Int} (h0 : 0 ≤ w) (h5 : w ≤ 5) : rf_call (d + 5) 141 [.inr (.inr (some 77)), .inl (n : Int), .inl w] (hp X D) = some (some (.inl 1), hp X (mtl (wf_v (D 82) (n : Int) w) (rg_up D 88 (sp_first (D 88) (D 82) 37)))) := by
  have E1 := sp_first_E (D 88) (D 82)
  rw [rf_e_M_wagon]
  try simp only [rg_hp1, rg_o_77, Int.reduceToNat, rg_kIs, rg_kLs, rg_kRs, rg_kVs, rg_nns, rg_bs, cond_true, cond_false]
  rw [rg_M_take]
  try simp only [rg_gR_77_4, Int.reduceToNat, rg_kIs, rg_kLs, rg_kRs, rg_kVs, rg_nns, rg_bs, cond_true, cond_false]
  rw [rg_aI_82 (by decide) (by decide)]
  try simp only [Int.reduceToNat, rg_kIs, rg_kLs, rg_kRs, rg_kVs, rg_nns, rg_bs, cond_true, cond_false]
  rw [rg_up_n (show (82 : Nat) ≠ 88 by decide), rg_w (by omega) (by omega), rg_M_in]
  try simp only [Int.reduceToNat, rg_kIs, rg_kLs, rg_kRs, rg_kVs, rg_nns, rg_bs, cond_true, cond_false]
  rw [if_pos (show 0 ≤ (n : Int) ∧ (n : Int) ≤ D 82 36 - 1 by omega), if_neg (by decide), rg_M_in]
  try simp only [Int.reduceToNat, rg_kIs, rg_kLs, rg_kRs, rg_kVs, rg_nns, rg_bs, cond_true, cond_false]
  rw [if_pos (show 0 ≤ w ∧ w ≤ 5 from ⟨h0, h5⟩), if_neg (by decide)]
  have fin : ∀ v, (2 < w → v = wf_v (D 82) (n : Int) w) → rf_j_M_wagon_79 (d + 4) 77 (n : Int) w v (hp X (rg_up D 88 (sp_first (D 88) (D 82) 37))) = some (some (.inl 1), hp X (mtl (wf_v (D 82) (n : Int) w) (rg_up D 88 (sp_first (D 88) (D 82) 37)))) := fun v hv => by
    have r := rg_M_wag_79 (X := X) (D := rg_up D 88 (sp_first (D 88) (D 82) 37)) (d + 1) (n := n) (by omega) (w := w) (v := v) h0 (by rw [rg_up_s, E1.wf (by omega)]; exact hv)
    rw [rg_up_s, E1.wf (by omega)] at r
    exact r
  by_cases a3 : w = 3
  · rw [if_pos a3]
    try simp only [rg_hp1, rg_o_77, Int.reduceToNat, rg_kIs, rg_kLs, rg_kRs, rg_kVs, rg_nns, rg_bs, cond_true, cond_false]
    rw [rg_M_holds (d + 2) (by omega) (by omega)]
    try simp only [Int.reduceToNat, rg_kIs, rg_kLs, rg_kRs, rg_kVs, rg_nns, rg_bs, cond_true, cond_false]
    refine fin _ fun _ => ?_
    rw [rg_up_s, (E1.wt (by omega)).2.1, a3]
    try rfl
  · rw [if_neg a3]
    by_cases a4 : w = 4
    · rw [if_pos a4]
      try simp only [rg_hp1, rg_o_77, Int.reduceToNat, rg_kIs, rg_kLs, rg_kRs, rg_kVs, rg_nns, rg_bs, cond_true, cond_false]
      rw [rg_M_slack (d + 2) (by omega) (by omega)]
      try simp only [Int.reduceToNat, rg_kIs, rg_kLs, rg_kRs, rg_kVs, rg_nns, rg_bs, cond_true, cond_false]
      refine fin _ fun _ => ?_
      rw [rg_up_s, (E1.wt (by omega)).2.2, a4]
      try rfl
    · rw [if_neg a4]
      try simp only [rg_gR_77_17, Int.reduceToNat, rg_kIs, rg_kLs, rg_kRs, rg_kVs, rg_nns, rg_bs, cond_true, cond_false]
      rw [rg_aI_88 (by decide) (by decide)]
      try simp only [Int.reduceToNat, rg_kIs, rg_kLs, rg_kRs, rg_kVs, rg_nns, rg_bs, cond_true, cond_false]
      rw [rg_up_s, E1 33 (by decide)]
      have e : ∀ q : Int, 2 < w → (if (n : Int) < D 82 33 then 1 else 0) = q → q = wf_v (D 82) (n : Int) w := fun q h hq => by
        unfold wf_v
        rw [if_neg (by omega), if_neg (by omega), if_neg (by omega), if_neg (by omega), if_neg (by omega)]
        exact hq.symm
      by_cases a5 : (n : Int) < D 82 33
      · rw [if_pos a5]
        exact fin _ fun h => e _ h (if_pos a5)
      · rw [if_neg a5]
        exact fin _ fun h => e _ h (if_neg a5)
theorem rg_M_wagN (d : Nat) (h0 : 0 ≤ D 82 36) (h36 : D 82 36 ≤ 6) {i w : Int} (hn : ¬ (0 ≤ i ∧ i < D 82 36 ∧ 0 ≤ w ∧ w ≤ 5)) : rf_call (d + 5) 141 [.inr (.inr (some 77)), .inl i, .inl w] (hp X D) = some (some (.inl (-1)), hp X (rg_up D 88 (sp_first (D 88) (D 82) 37))) := by
  rw [rf_e_M_wagon]
  try simp only [rg_hp1, rg_o_77, Int.reduceToNat, rg_kIs, rg_kLs, rg_kRs, rg_kVs, rg_nns, rg_bs, cond_true, cond_false]
  rw [rg_M_take]
  try simp only [rg_gR_77_4, Int.reduceToNat, rg_kIs, rg_kLs, rg_kRs, rg_kVs, rg_nns, rg_bs, cond_true, cond_false]
  rw [rg_aI_82 (by decide) (by decide)]
  try simp only [Int.reduceToNat, rg_kIs, rg_kLs, rg_kRs, rg_kVs, rg_nns, rg_bs, cond_true, cond_false]
  rw [rg_up_n (show (82 : Nat) ≠ 88 by decide), rg_w (by omega) (by omega), rg_M_in]
  try simp only [Int.reduceToNat, rg_kIs, rg_kLs, rg_kRs, rg_kVs, rg_nns, rg_bs, cond_true, cond_false]
  by_cases a : 0 ≤ i ∧ i ≤ D 82 36 - 1
  · rw [if_pos a, if_neg (by decide), rg_M_in]
    try simp only [Int.reduceToNat, rg_kIs, rg_kLs, rg_kRs, rg_kVs, rg_nns, rg_bs, cond_true, cond_false]
    rw [if_neg (show ¬ (0 ≤ w ∧ w ≤ 5) by omega), if_pos (by decide)]
  · rw [if_neg a, if_pos (by decide)]
theorem st_wagon (hI : Inv D) (d : Nat) (i w : Int) : Ag X D (d + 8) 71 141 [.inl i, .inl w] := by
  unfold Ag
  have hw := hI.2.2.2.2.wag
  by_cases hn : 0 ≤ i ∧ i < D 82 36 ∧ 0 ≤ w ∧ w ≤ 5
  · obtain ⟨n, rfl⟩ := Int.eq_ofNat_of_zero_le hn.1
    rcases hI.2.2.2.2 with ⟨h12, hN⟩ | ⟨h12, hY⟩
    · have := hN.1 36 (by decide)
      omega
    · obtain ⟨hd, hC, ha, hb, hT, ⟨m, h4, hDE, hL⟩, -⟩ := hY
      have st := hL.st hDE.1 ha hb hC.2.2.2.1
      have v1 := rg_W_wf (X := X) hC hd hT st.1.2.2.2.2.1 (d + 3) (n := n) (by omega) w
      have e82 : ∀ v, wtl v D 82 = D 82 := fun v => wtl_n (by decide)
      have e88 : ∀ v, wtl v D 88 = D 88 := fun v => wtl_n (by decide)
      have m1 := rg_M_wagY (X := X) (D := wtl (wf_v (D 82) (n : Int) w) D) (d + 3) (by rw [e82]; exact hw.2.2) (n := n) (by rw [e82]; exact hn.2.1) hn.2.2.1 hn.2.2.2
      rw [e82, e88] at m1
      refine ⟨1, wtl (wf_v (D 82) (n : Int) w) D, _, ?_, m1, ?_⟩
      · rw [rf_e_W_wagon, if_neg (by omega)]
        try simp only [rg_gR_0_10, rg_T_gI rg_tr_43, Int.reduceToNat, rg_kIs, rg_kLs, rg_kRs, rg_kVs, rg_nns, rg_bs, cond_true, cond_false]
        rw [if_pos (by omega), if_neg (by omega), if_pos (by omega)]
        try simp only [rg_hp1, rg_o_0, Int.reduceToNat, rg_kIs, rg_kLs, rg_kRs, rg_kVs, rg_nns, rg_bs, cond_true, cond_false]
        rw [v1]
        try simp only [rg_hp1, rg_o_0, Int.reduceToNat, rg_kIs, rg_kLs, rg_kRs, rg_kVs, rg_nns, rg_bs, cond_true, cond_false]
        rw [rg_W_tell]
        try simp only [Int.reduceToNat, rg_kIs, rg_kLs, rg_kRs, rg_kVs, rg_nns, rg_bs, cond_true, cond_false]
      · rw [rg_mt88]
        exact (hI.tl _).s88 _
  · refine ⟨-1, D, _, ?_, rg_M_wagN (d + 3) hw.2.1 hw.2.2 hn, hI.s88 _⟩
    rw [rf_e_W_wagon]
    by_cases a : i < 0
    · rw [if_pos a]
    · rw [if_neg a]
      try simp only [rg_gR_0_10, rg_T_gI rg_tr_43, Int.reduceToNat, rg_kIs, rg_kLs, rg_kRs, rg_kVs, rg_nns, rg_bs, cond_true, cond_false]
      by_cases b : i < D 43 6
      · rw [if_pos b]
        by_cases c : w < 0
        · rw [if_pos c]
        · rw [if_neg c, if_neg (by omega)]
      · rw [if_neg b]
/-- what is told of the engine -/
def en_v (A : Nat → Int) (w : Int) : Int := if w = 0 then A 0 else if w = 1 then A 27 else if w = 2 then A 28 else if w = 3 then A 1 else if w = 4 then A 29 else if w = 5 then A 30 else if w = 6 then A 31 else if w = 7 then A 33 else if w = 8 then A 34 else A 35
theorem rg_W_ef (hC : CR D 28 s W) (hT : TR (D 43) s 0) (h30 : s 30 = 0 ∨ s 30 = 1) (h31 : s 31 = 0 ∨ s 31 = 1) (d : Nat) (w : Int) : rf_call (d + 1) 76 [.inr (.inr (some 0)), .inl w] (hp X D) = some (some (.inl (en_v s w)), hp X D) := by
  obtain ⟨⟨t2, t3, t4⟩, ⟨t9, t10, t11⟩, t5, t8, t7, t6⟩ := hT
  obtain ⟨c7, c10, -⟩ := hC.1
  rw [rf_e_W_engineFact]
  unfold en_v
  try simp only [rg_gR_0_9, rg_gR_0_10, rg_T_gI rg_tr_43, rg_gI_28, Int.reduceToNat, rg_kIs, rg_kLs, rg_kRs, rg_kVs, rg_nns, rg_bs, cond_true, cond_false]
  by_cases a0 : w = 0
  · rw [if_pos a0, if_pos a0, c7]
  · rw [if_neg a0, if_neg a0]
    by_cases a1 : w = 1
    · rw [if_pos (show w = 0 + 1 from a1), if_pos a1, t2]
    · rw [if_neg (show ¬ w = 0 + 1 from a1), if_neg a1]
      by_cases a2 : w = 2
      · rw [if_pos (show w = 0 + 1 + 1 from a2), if_pos a2, t3]
      · rw [if_neg (show ¬ w = 0 + 1 + 1 from a2), if_neg a2]
        by_cases a3 : w = 3
        · rw [if_pos (show w = 0 + 1 + 1 + 1 from a3), if_pos a3, c10]
        · rw [if_neg (show ¬ w = 0 + 1 + 1 + 1 from a3), if_neg a3]
          by_cases a4 : w = 4
          · rw [if_pos (show w = 0 + 1 + 1 + 1 + 1 from a4), if_pos a4, t4]
          · rw [if_neg (show ¬ w = 0 + 1 + 1 + 1 + 1 from a4), if_neg a4]
            by_cases a5 : w = 5
            · rw [if_pos (show w = 0 + 1 + 1 + 1 + 1 + 1 from a5), if_pos a5, t9]
              rcases h30 with z | z
              · rw [z, if_pos (by decide)]
              · rw [z, if_neg (by decide)]
            · rw [if_neg (show ¬ w = 0 + 1 + 1 + 1 + 1 + 1 from a5), if_neg a5]
              by_cases a6 : w = 6
              · rw [if_pos (show w = 0 + 1 + 1 + 1 + 1 + 1 + 1 from a6), if_pos a6, t10]
                rcases h31 with z | z
                · rw [z, if_pos (by decide)]
                · rw [z, if_neg (by decide)]
              · rw [if_neg (show ¬ w = 0 + 1 + 1 + 1 + 1 + 1 + 1 from a6), if_neg a6]
                by_cases a7 : w = 7
                · rw [if_pos (show w = 0 + 1 + 1 + 1 + 1 + 1 + 1 + 1 from a7), if_pos a7, t5]
                · rw [if_neg (show ¬ w = 0 + 1 + 1 + 1 + 1 + 1 + 1 + 1 from a7), if_neg a7]
                  by_cases a8 : w = 8
                  · rw [if_pos (show w = 0 + 1 + 1 + 1 + 1 + 1 + 1 + 1 + 1 from a8), if_pos a8, t8]
                  · rw [if_neg (show ¬ w = 0 + 1 + 1 + 1 + 1 + 1 + 1 + 1 + 1 from a8), if_neg a8, t7, Int.sub_zero]
theorem rg_M_en_113 (d : Nat) {w a b : Int} (h0 : 0 ≤ w) (h9 : w ≤ 9) (ha : w < 4 → a = en_v (D 82) w) (hb : 6 < w → b = en_v (D 82) w) : rf_j_M_engine_113 (d + 1) 77 w a b (hp X D) = some (some (.inl 1), hp X (mtl (en_v (D 82) w) D)) := by
  rw [rf_e_M_engine_113]
  by_cases z4 : w < 4
  · rw [if_pos z4]
    try simp only [rg_hp1, rg_o_77, Int.reduceToNat, rg_kIs, rg_kLs, rg_kRs, rg_kVs, rg_nns, rg_bs, cond_true, cond_false]
    rw [rg_M_tells, ha z4]
    try simp only [Int.reduceToNat, rg_kIs, rg_kLs, rg_kRs, rg_kVs, rg_nns, rg_bs, cond_true, cond_false]
  · rw [if_neg z4]
    by_cases z7 : w < 7
    · have x1 : rf_w (rf_w (29 + w) - 4) = 25 + w := by
        rw [rg_w (z := 29 + w) (by omega) (by omega), rg_w (by omega) (by omega)]
        omega
      rw [if_pos z7]
      try simp only [rg_gR_77_4, Int.reduceToNat, rg_kIs, rg_kLs, rg_kRs, rg_kVs, rg_nns, rg_bs, cond_true, cond_false, x1]
      rw [rg_aI_82 (by omega) (by omega)]
      try simp only [rg_hp1, rg_o_77, Int.reduceToNat, rg_kIs, rg_kLs, rg_kRs, rg_kVs, rg_nns, rg_bs, cond_true, cond_false]
      rw [rg_M_tells]
      try simp only [Int.reduceToNat, rg_kIs, rg_kLs, rg_kRs, rg_kVs, rg_nns, rg_bs, cond_true, cond_false]
      unfold en_v
      rw [if_neg (by omega), if_neg (by omega), if_neg (by omega), if_neg (by omega)]
      by_cases z : w = 4
      · rw [if_pos z, z]
        try rfl
      · rw [if_neg z]
        by_cases y : w = 5
        · rw [if_pos y, y]
          try rfl
        · rw [if_neg y, if_pos (by omega), show w = 6 by omega]
          try rfl
    · rw [if_neg z7]
      try simp only [rg_hp1, rg_o_77, Int.reduceToNat, rg_kIs, rg_kLs, rg_kRs, rg_kVs, rg_nns, rg_bs, cond_true, cond_false]
      rw [rg_M_tells, hb (by omega)]
      try simp only [Int.reduceToNat, rg_kIs, rg_kLs, rg_kRs, rg_kVs, rg_nns, rg_bs, cond_true, cond_false]
theorem rg_M_en_73 (d : Nat) {w a : Int} (h0 : 0 ≤ w) (h9 : w ≤ 9) (ha : w < 4 → a = en_v (D 82) w) : rf_j_M_engine_73 (d + 1) 77 w a (hp X D) = some (some (.inl 1), hp X (mtl (en_v (D 82) w) D)) := by
  have k := fun b hb => rg_M_en_113 (X := X) (D := D) d (b := b) h0 h9 ha hb
  have e : ∀ b, 6 < w → (if w = 7 then D 82 33 else if w = 8 then D 82 34 else D 82 35) = b → b = en_v (D 82) w := fun b z e => by
    unfold en_v
    rw [if_neg (by omega), if_neg (by omega), if_neg (by omega), if_neg (by omega), if_neg (by omega), if_neg (by omega), if_neg (by omega)]
    exact e.symm
  rw [rf_e_M_engine_73]
  by_cases a7 : w = 7
  · rw [if_pos a7]
    try simp only [rg_gR_77_4, Int.reduceToNat, rg_kIs, rg_kLs, rg_kRs, rg_kVs, rg_nns, rg_bs, cond_true, cond_false]
    rw [rg_aI_82 (by decide) (by decide)]
    try simp only [Int.reduceToNat, rg_kIs, rg_kLs, rg_kRs, rg_kVs, rg_nns, rg_bs, cond_true, cond_false]
    exact k _ fun z => e _ z (if_pos a7)
  · rw [if_neg a7]
    by_cases a8 : w = 8
    · rw [if_pos a8]
      try simp only [rg_gR_77_4, Int.reduceToNat, rg_kIs, rg_kLs, rg_kRs, rg_kVs, rg_nns, rg_bs, cond_true, cond_false]
      rw [rg_aI_82 (by decide) (by decide)]
      try simp only [Int.reduceToNat, rg_kIs, rg_kLs, rg_kRs, rg_kVs, rg_nns, rg_bs, cond_true, cond_false]
      exact k _ fun z => e _ z (by rw [if_neg a7, if_pos a8])
    · rw [if_neg a8]
      try simp only [rg_gR_77_4, Int.reduceToNat, rg_kIs, rg_kLs, rg_kRs, rg_kVs, rg_nns, rg_bs, cond_true, cond_false]
      rw [rg_aI_82 (by decide) (by decide)]
      try simp only [Int.reduceToNat, rg_kIs, rg_kLs, rg_kRs, rg_kVs, rg_nns, rg_bs, cond_true, cond_false]
      exact k _ fun z => e _ z (by rw [if_neg a7, if_neg a8])
theorem rg_M_enY (d : Nat) (h0 : 0 < D 82 0) {w : Int} (w0 : 0 ≤ w) (w9 : w ≤ 9) : rf_call (d + 2) 149 [.inr (.inr (some 77)), .inl w] (hp X D) = some (some (.inl 1), hp X (mtl (en_v (D 82) w) D)) := by
  have k := fun a ha => rg_M_en_73 (X := X) (D := D) d (a := a) w0 w9 ha
  have e : ∀ b, w < 4 → (if w = 0 then D 82 0 else if w = 1 then D 82 27 else if w = 2 then D 82 28 else D 82 1) = b → b = en_v (D 82) w := fun b z e => by
    unfold en_v
    rw [← e]
    by_cases a0 : w = 0
    · rw [if_pos a0, if_pos a0]
    · rw [if_neg a0, if_neg a0]
      by_cases a1 : w = 1
      · rw [if_pos a1, if_pos a1]
      · rw [if_neg a1, if_neg a1]
        by_cases a2 : w = 2
        · rw [if_pos a2, if_pos a2]
        · rw [if_neg a2, if_neg a2, if_pos (by omega)]
  rw [rf_e_M_engine]
  try simp only [rg_hp1, rg_o_77, Int.reduceToNat, rg_kIs, rg_kLs, rg_kRs, rg_kVs, rg_nns, rg_bs, cond_true, cond_false]
  rw [rg_M_isTrain, if_pos h0]
  try simp only [Int.reduceToNat, rg_kIs, rg_kLs, rg_kRs, rg_kVs, rg_nns, rg_bs, cond_true, cond_false]
  rw [if_neg (by decide), rg_M_in]
  try simp only [Int.reduceToNat, rg_kIs, rg_kLs, rg_kRs, rg_kVs, rg_nns, rg_bs, cond_true, cond_false]
  rw [if_pos (show 0 ≤ w ∧ w ≤ 9 from ⟨w0, w9⟩), if_neg (by decide)]
  by_cases a0 : w = 0
  · rw [if_pos a0]
    try simp only [rg_gR_77_4, Int.reduceToNat, rg_kIs, rg_kLs, rg_kRs, rg_kVs, rg_nns, rg_bs, cond_true, cond_false]
    rw [rg_aI_82 (by decide) (by decide)]
    try simp only [Int.reduceToNat, rg_kIs, rg_kLs, rg_kRs, rg_kVs, rg_nns, rg_bs, cond_true, cond_false]
    exact k _ fun z => e _ z (by rw [if_pos a0])
  · rw [if_neg a0]
    by_cases a1 : w = 1
    · rw [if_pos a1]
      try simp only [rg_gR_77_4, Int.reduceToNat, rg_kIs, rg_kLs, rg_kRs, rg_kVs, rg_nns, rg_bs, cond_true, cond_false]
      rw [rg_aI_82 (by decide) (by decide)]
      try simp only [Int.reduceToNat, rg_kIs, rg_kLs, rg_kRs, rg_kVs, rg_nns, rg_bs, cond_true, cond_false]
      exact k _ fun z => e _ z (by rw [if_neg a0, if_pos a1])
    · rw [if_neg a1]
      by_cases a2 : w = 2
      · rw [if_pos a2]
        try simp only [rg_gR_77_4, Int.reduceToNat, rg_kIs, rg_kLs, rg_kRs, rg_kVs, rg_nns, rg_bs, cond_true, cond_false]
        rw [rg_aI_82 (by decide) (by decide)]
        try simp only [Int.reduceToNat, rg_kIs, rg_kLs, rg_kRs, rg_kVs, rg_nns, rg_bs, cond_true, cond_false]
        exact k _ fun z => e _ z (by rw [if_neg a0, if_neg a1, if_pos a2])
      · rw [if_neg a2]
        try simp only [rg_gR_77_4, Int.reduceToNat, rg_kIs, rg_kLs, rg_kRs, rg_kVs, rg_nns, rg_bs, cond_true, cond_false]
        rw [rg_aI_82 (by decide) (by decide)]
        try simp only [Int.reduceToNat, rg_kIs, rg_kLs, rg_kRs, rg_kVs, rg_nns, rg_bs, cond_true, cond_false]
        exact k _ fun z => e _ z (by rw [if_neg a0, if_neg a1, if_neg a2])
theorem st_engine (hI : Inv D) (d : Nat) (w : Int) : Ag X D (d + 8) 75 149 [.inl w] := by
  unfold Ag
  rcases hI.2.2.2.2 with ⟨h12, hN⟩ | ⟨h12, hY⟩
  · refine ⟨-4, D, D, ?_, ?_, hI⟩
    · rw [rf_e_W_engine]
      try simp only [rg_gI_0, Int.reduceToNat, rg_kIs, rg_kLs, rg_kRs, rg_kVs, rg_nns, rg_bs, cond_true, cond_false]
      rw [if_pos h12]
    · rw [rf_e_M_engine]
      try simp only [rg_hp1, rg_o_77, Int.reduceToNat, rg_kIs, rg_kLs, rg_kRs, rg_kVs, rg_nns, rg_bs, cond_true, cond_false]
      rw [rg_M_isTrain, hN.1 0 (by decide)]
      try simp only [Int.reduceToNat, rg_kIs, rg_kLs, rg_kRs, rg_kVs, rg_nns, rg_bs, cond_true, cond_false]
      rw [if_pos (by decide)]
  · obtain ⟨hd, hC, ha, hb, hT, ⟨m, h4, hDE, hL⟩, -⟩ := hY
    have st := hL.st hDE.1 ha hb hC.2.2.2.1
    have h0 : 0 < D 82 0 := by
      have := hd.1.1
      omega
    by_cases hw : 0 ≤ w ∧ w ≤ 9
    · have v1 := rg_W_ef (X := X) hC hT st.1.2.2.2.1 st.1.2.2.2.2.1 (d + 6) w
      have e82 : ∀ v, wtl v D 82 = D 82 := fun v => wtl_n (by decide)
      have m1 := rg_M_enY (X := X) (D := wtl (en_v (D 82) w) D) (d + 6) (by rw [e82]; exact h0) hw.1 hw.2
      rw [e82] at m1
      refine ⟨1, wtl (en_v (D 82) w) D, _, ?_, m1, hI.tl _⟩
      rw [rf_e_W_engine]
      try simp only [rg_gI_0, Int.reduceToNat, rg_kIs, rg_kLs, rg_kRs, rg_kVs, rg_nns, rg_bs, cond_true, cond_false]
      rw [if_neg (by omega), if_neg (by omega), if_pos (by omega)]
      try simp only [rg_hp1, rg_o_0, Int.reduceToNat, rg_kIs, rg_kLs, rg_kRs, rg_kVs, rg_nns, rg_bs, cond_true, cond_false]
      rw [v1]
      try simp only [rg_hp1, rg_o_0, Int.reduceToNat, rg_kIs, rg_kLs, rg_kRs, rg_kVs, rg_nns, rg_bs, cond_true, cond_false]
      rw [rg_W_tell]
      try simp only [Int.reduceToNat, rg_kIs, rg_kLs, rg_kRs, rg_kVs, rg_nns, rg_bs, cond_true, cond_false]
    · refine ⟨-1, D, D, ?_, ?_, hI⟩
      · rw [rf_e_W_engine]
        try simp only [rg_gI_0, Int.reduceToNat, rg_kIs, rg_kLs, rg_kRs, rg_kVs, rg_nns, rg_bs, cond_true, cond_false]
        rw [if_neg (by omega)]
        by_cases c : w < 0
        · rw [if_pos c]
        · rw [if_neg c, if_neg (by omega)]
      · rw [rf_e_M_engine]
        try simp only [rg_hp1, rg_o_77, Int.reduceToNat, rg_kIs, rg_kLs, rg_kRs, rg_kVs, rg_nns, rg_bs, cond_true, cond_false]
        rw [rg_M_isTrain, if_pos h0]
        try simp only [Int.reduceToNat, rg_kIs, rg_kLs, rg_kRs, rg_kVs, rg_nns, rg_bs, cond_true, cond_false]
        rw [if_neg (by decide), rg_M_in]
        try simp only [Int.reduceToNat, rg_kIs, rg_kLs, rg_kRs, rg_kVs, rg_nns, rg_bs, cond_true, cond_false]
        rw [if_neg hw, if_pos (by decide)]
end RGS14
