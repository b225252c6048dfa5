/-! The class's Consist and Train. -/
def rg_con (c : Nat) : Prop := rf_isO rg_T c 0 = true ∧ (rg_P c 0 = some (c + 1) ∧ rg_P c 1 = some (c + 3) ∧ rg_P c 2 = some (c + 5) ∧ rg_P c 3 = some (c + 7) ∧ rg_P c 4 = some (c + 9) ∧ rg_P c 5 = some (c + 11) ∧ rg_P c 6 = some (c + 13)) ∧ rg_row (c + 1) 6 ∧ rg_row (c + 3) 6 ∧ rg_row (c + 5) 6 ∧ rg_row (c + 7) 6 ∧ rg_row (c + 9) 6 ∧ rg_row (c + 11) 7 ∧ rg_row (c + 13) 7
theorem rg_con_13 : rg_con 13 := ⟨rfl, ⟨rg_Pe (by decide +kernel), rg_Pe (by decide +kernel), rg_Pe (by decide +kernel), rg_Pe (by decide +kernel), rg_Pe (by decide +kernel), rg_Pe (by decide +kernel), rg_Pe (by decide +kernel)⟩, rg_row_14, rg_row_16, rg_row_18, rg_row_20, rg_row_22, rg_row_24, rg_row_26⟩
theorem rg_con_28 : rg_con 28 := ⟨rfl, ⟨rg_Pe (by decide +kernel), rg_Pe (by decide +kernel), rg_Pe (by decide +kernel), rg_Pe (by decide +kernel), rg_Pe (by decide +kernel), rg_Pe (by decide +kernel), rg_Pe (by decide +kernel)⟩, rg_row_29, rg_row_31, rg_row_33, rg_row_35, rg_row_37, rg_row_39, rg_row_41⟩
section RGC
variable {X : rf_X} {D : rf_D} {c : Nat}
theorem rg_C_g0 (h : rg_con c) : rf_gR (hp X D) 0 c 0 = some (some (c + 1)) := (rg_gR h.1).trans (congrArg some h.2.1.1)
theorem rg_C_g1 (h : rg_con c) : rf_gR (hp X D) 0 c 1 = some (some (c + 3)) := (rg_gR h.1).trans (congrArg some h.2.1.2.1)
theorem rg_C_g2 (h : rg_con c) : rf_gR (hp X D) 0 c 2 = some (some (c + 5)) := (rg_gR h.1).trans (congrArg some h.2.1.2.2.1)
theorem rg_C_g3 (h : rg_con c) : rf_gR (hp X D) 0 c 3 = some (some (c + 7)) := (rg_gR h.1).trans (congrArg some h.2.1.2.2.2.1)
theorem rg_C_g4 (h : rg_con c) : rf_gR (hp X D) 0 c 4 = some (some (c + 9)) := (rg_gR h.1).trans (congrArg some h.2.1.2.2.2.2.1)
theorem rg_C_g5 (h : rg_con c) : rf_gR (hp X D) 0 c 5 = some (some (c + 11)) := (rg_gR h.1).trans (congrArg some h.2.1.2.2.2.2.2.1)
theorem rg_C_g6 (h : rg_con c) : rf_gR (hp X D) 0 c 6 = some (some (c + 13)) := (rg_gR h.1).trans (congrArg some h.2.1.2.2.2.2.2.2)
theorem rg_C_gI (h : rg_con c) (i : Nat) : rf_gI (hp X D) 0 c i = some (D c i) := rg_gI h.1
theorem rg_C_pI (h : rg_con c) (i : Nat) (v : Int) : rf_pI (hp X D) 0 c i v = some (hp X (rg_up D c (rg_ui (D c) i v))) := rg_pI h.1
theorem rg_con.r1 (h : rg_con c) : rg_row (c + 1) 6 := h.2.2.1
theorem rg_con.r3 (h : rg_con c) : rg_row (c + 3) 6 := h.2.2.2.1
theorem rg_con.r5 (h : rg_con c) : rg_row (c + 5) 6 := h.2.2.2.2.1
theorem rg_con.r7 (h : rg_con c) : rg_row (c + 7) 6 := h.2.2.2.2.2.1
theorem rg_con.r9 (h : rg_con c) : rg_row (c + 9) 6 := h.2.2.2.2.2.2.1
theorem rg_con.r11 (h : rg_con c) : rg_row (c + 11) 7 := h.2.2.2.2.2.2.2.1
theorem rg_con.r13 (h : rg_con c) : rg_row (c + 13) 7 := h.2.2.2.2.2.2.2.2
/-- whether a wagon of a kind is of another -/
def sp_isOf (k a : Int) : Prop := k = a ∨ (a = 1 ∧ k = 4) ∨ (a = 2 ∧ k = 5)
theorem rg_C_isOf (h : rg_con c) (d : Nat) {i a k : Int} (h1 : 0 ≤ i) (h2 : i < D (c + 3) 1) (h3 : D (c + 3) 1 ≤ 6) (hk : D (c + 4) i.toNat = k) : rf_call (d + 2) 22 [.inr (.inr (some c)), .inl i, .inl a] (hp X D) = some (some (.inl (if k = a ∨ (a = 1 ∧ k = 4) ∨ (a = 2 ∧ k = 5) then 1 else 0)), hp X D) := by
  rw [rf_e_C_isOf]
  simp only [rg_C_g1 h, rg_hp1, rg_row_o h.r3, Int.reduceToNat, rg_kIs, rg_kLs, rg_kRs, rg_kVs, rg_nns, rg_bs, cond_true, cond_false]
  rw [rg_R_cellI h.r3 d h1 h2 h3]
  simp only [Int.reduceToNat, rg_kIs, rg_kLs, rg_kRs, rg_kVs, rg_nns, rg_bs, cond_true, cond_false, hk]
  by_cases a1 : k = a
  · rw [if_pos a1, if_pos (show k = a ∨ (a = 1 ∧ k = 4) ∨ (a = 2 ∧ k = 5) from Or.inl a1)]
  · rw [if_neg a1]
    by_cases a2 : a = 1
    · rw [if_pos a2]
      by_cases a3 : k = 4
      · rw [if_pos a3, if_pos (show k = a ∨ (a = 1 ∧ k = 4) ∨ (a = 2 ∧ k = 5) by omega)]
      · rw [if_neg a3, if_neg (show ¬ a = 2 by omega), if_neg (show ¬ (k = a ∨ (a = 1 ∧ k = 4) ∨ (a = 2 ∧ k = 5)) by omega)]
    · rw [if_neg a2]
      by_cases a3 : a = 2
      · rw [if_pos a3]
        by_cases a4 : k = 5
        · rw [if_pos a4, if_pos (show k = a ∨ (a = 1 ∧ k = 4) ∨ (a = 2 ∧ k = 5) by omega)]
        · rw [if_neg a4, if_neg (show ¬ (k = a ∨ (a = 1 ∧ k = 4) ∨ (a = 2 ∧ k = 5)) by omega)]
      · rw [if_neg a3, if_neg (show ¬ (k = a ∨ (a = 1 ∧ k = 4) ∨ (a = 2 ∧ k = 5)) by omega)]
theorem rg_C_slack (h : rg_con c) (d : Nat) {i k : Int} (h1 : 0 ≤ i) (h2 : i < D (c + 3) 1) (h3 : D (c + 3) 1 ≤ 6) (hk : D (c + 4) i.toNat = k) : rf_call (d + 3) 23 [.inr (.inr (some c)), .inl i] (hp X D) = some (some (.inl (if k = 2 ∨ k = 5 then 2 else 0)), hp X D) := by
  rw [rf_e_C_slackness]
  simp only [rg_hp1, h.1, Int.reduceToNat, rg_kIs, rg_kLs, rg_kRs, rg_kVs, rg_nns, rg_bs, cond_true, cond_false]
  rw [rg_C_isOf h d h1 h2 h3 hk]
  by_cases a1 : k = 2 ∨ k = 5
  · rw [if_pos (show k = 2 ∨ ((2 : Int) = 1 ∧ k = 4) ∨ ((2 : Int) = 2 ∧ k = 5) by omega), if_pos a1]
    try rfl
  · rw [if_neg (show ¬ (k = 2 ∨ ((2 : Int) = 1 ∧ k = 4) ∨ ((2 : Int) = 2 ∧ k = 5)) by omega), if_neg a1]
    try rfl
theorem rg_C_holds (h : rg_con c) (d : Nat) {i k v : Int} (h1 : 0 ≤ i) (h2 : i < D (c + 3) 1) (h3 : D (c + 3) 1 ≤ 6) (hk : D (c + 4) i.toNat = k) (h4 : D (c + 7) 1 ≤ 6) (h5 : i < D (c + 7) 1) (hv : D (c + 8) i.toNat = v) : rf_call (d + 3) 21 [.inr (.inr (some c)), .inl i] (hp X D) = some (some (.inl (if k = 4 then rf_w (Int.tdiv v 2) else v)), hp X D) := by
  rw [rf_e_C_holds]
  simp only [rg_C_g3 h, rg_hp1, rg_row_o h.r7, h.1, Int.reduceToNat, rg_kIs, rg_kLs, rg_kRs, rg_kVs, rg_nns, rg_bs, cond_true, cond_false]
  rw [rg_R_cellI h.r7 (d + 1) h1 h5 h4]
  simp only [rg_hp1, h.1, Int.reduceToNat, rg_kIs, rg_kLs, rg_kRs, rg_kVs, rg_nns, rg_bs, cond_true, cond_false, hv]
  rw [rg_C_isOf h d h1 h2 h3 hk]
  simp only [Int.reduceToNat, rg_kIs, rg_kLs, rg_kRs, rg_kVs, rg_nns, rg_bs, cond_true, cond_false]
  by_cases a1 : k = 4
  · rw [if_pos (show k = 4 ∨ ((4 : Int) = 1 ∧ k = 4) ∨ ((4 : Int) = 2 ∧ k = 5) by omega), if_neg (by decide), if_pos a1]
  · rw [if_neg (show ¬ (k = 4 ∨ ((4 : Int) = 1 ∧ k = 4) ∨ ((4 : Int) = 2 ∧ k = 5)) by omega), if_pos rfl, if_neg a1]
/-- what a wagon weighs, by its kind, tons, the brake, the hill -/
def sp_wt (k t b hill : Int) : Int := (if k = 1 ∨ k = 4 then 2 * t else if k = 3 then (if t < 2 then 0 else t - 2) else t) + (if k = 5 ∧ b = 1 then 3 else 0) + hill
theorem rg_C_weighs (h : rg_con c) (d : Nat) {i b k t : Int} (h1 : 0 ≤ i) (h2 : i < D (c + 3) 1) (h3 : D (c + 3) 1 ≤ 6) (hk : D (c + 4) i.toNat = k) (h4 : D (c + 5) 1 ≤ 6) (h5 : i < D (c + 5) 1) (ht : D (c + 6) i.toNat = t) (t0 : 0 ≤ t) (t9 : t ≤ 9) (l0 : 0 ≤ D c 10) (l3 : D c 10 ≤ 3) (hb : b = 0 ∨ b = 1) : rf_call (d + 2) 24 [.inr (.inr (some c)), .inl i, .inl b] (hp X D) = some (some (.inl (sp_wt k t b (D c 10))), hp X D) := by
  rw [rf_e_C_weighs]
  simp only [rg_C_g2 h, rg_C_g1 h, rg_hp1, rg_row_o h.r5, rg_row_o h.r3, Int.reduceToNat, rg_kIs, rg_kLs, rg_kRs, rg_kVs, rg_nns, rg_bs, cond_true, cond_false]
  rw [rg_R_cellI h.r5 d h1 h5 h4]
  simp only [rg_C_g1 h, rg_hp1, rg_row_o h.r3, Int.reduceToNat, rg_kIs, rg_kLs, rg_kRs, rg_kVs, rg_nns, rg_bs, cond_true, cond_false, ht]
  rw [rg_R_cellI h.r3 d h1 h2 h3]
  simp only [Int.reduceToNat, rg_kIs, rg_kLs, rg_kRs, rg_kVs, rg_nns, rg_bs, cond_true, cond_false, rg_C_gI h, hk, rg_J_max]
  unfold sp_wt
  by_cases a1 : k = 1
  · subst a1
    rw [if_pos rfl, rg_w (z := 2 * t) (by omega) (by omega), rg_w (by omega) (by omega), if_pos (Or.inl rfl), if_neg (by omega)]
    congr 4
    try omega
  · rw [if_neg a1]
    by_cases a2 : k = 1 + 1
    · rw [if_pos a2, rg_w (by omega) (by omega), if_neg (by omega), if_neg (by omega), if_neg (by omega)]
      congr 4
      try omega
    · rw [if_neg a2]
      by_cases a3 : k = 1 + 1 + 1
      · rw [if_pos a3, rg_w (z := t - 2) (by omega) (by omega), if_neg (show ¬ (k = 1 ∨ k = 4) by omega), if_pos (show k = 3 by omega), if_neg (show ¬ (k = 5 ∧ b = 1) by omega)]
        by_cases a4 : t < 2
        · rw [if_pos a4, if_neg (show ¬ (0 : Int) < t - 2 by omega), rg_w (by omega) (by omega)]
          congr 4
          try omega
        · rw [if_neg a4]
          by_cases a5 : (0 : Int) < t - 2
          · rw [if_pos a5, rg_w (by omega) (by omega)]
            congr 4
            try omega
          · rw [if_neg a5, rg_w (by omega) (by omega)]
            congr 4
            try omega
      · rw [if_neg a3]
        by_cases a4 : k = 1 + 1 + 1 + 1
        · rw [if_pos a4, rg_w (z := 2 * t) (by omega) (by omega), rg_w (by omega) (by omega), if_pos (show k = 1 ∨ k = 4 by omega), if_neg (show ¬ (k = 5 ∧ b = 1) by omega)]
          congr 4
          try omega
        · rw [if_neg a4]
          by_cases a5 : k = 1 + 1 + 1 + 1 + 1
          · rw [if_pos a5, if_neg (show ¬ (k = 1 ∨ k = 4) by omega), if_neg (show ¬ k = 3 by omega)]
            rcases hb with rfl | rfl
            · rw [if_pos rfl, rg_w (z := t + 0) (by omega) (by omega), rg_w (by omega) (by omega), if_neg (show ¬ (k = 5 ∧ (0 : Int) = 1) by omega)]
            · rw [if_neg (show ¬ (1 : Int) = 0 by omega), rg_w (z := t + 3) (by omega) (by omega), rg_w (by omega) (by omega), if_pos (show k = 5 ∧ (1 : Int) = 1 by omega)]
          · rw [if_neg a5, rg_w (by omega) (by omega), if_neg (show ¬ (k = 1 ∨ k = 4) by omega), if_neg (show ¬ k = 3 by omega), if_neg (show ¬ (k = 5 ∧ b = 1) by omega)]
            congr 4
            try omega
theorem rg_xor0 {x y : Int} (hx : 0 ≤ x) (hx2 : x < 2147483648) (hy : 0 ≤ y) (hy2 : y < 2147483648) : ¬ rf_xor x y < 0 := by
  have ex : (Int32.ofInt x).toInt = x := rf_t32 ⟨by omega, hx2⟩
  have ey : (Int32.ofInt y).toInt = y := rf_t32 ⟨by omega, hy2⟩
  have mx : (Int32.ofInt x).toBitVec.msb = false := by
    rw [BitVec.msb_eq_toInt]
    show decide ((Int32.ofInt x).toInt < 0) = false
    rw [ex]
    exact decide_eq_false (by omega)
  have my : (Int32.ofInt y).toBitVec.msb = false := by
    rw [BitVec.msb_eq_toInt]
    show decide ((Int32.ofInt y).toInt < 0) = false
    rw [ey]
    exact decide_eq_false (by omega)
  have mz : (Int32.ofInt x ^^^ Int32.ofInt y).toBitVec.msb = false := by
    show ((Int32.ofInt x).toBitVec ^^^ (Int32.ofInt y).toBitVec).msb = false
    rw [BitVec.msb_xor, mx, my]
    try rfl
  intro q
  rw [BitVec.msb_eq_toInt] at mz
  exact absurd q (of_decide_eq_false mz)
theorem rg_C_railAt (h : rg_con c) (d : Nat) {i : Int} (h1 : 0 ≤ i) (h1b : i < 2147483648) (h2 : 1 ≤ D (c + 1) 1) (h3 : D (c + 1) 1 ≤ 6) : rf_call (d + 2) 25 [.inr (.inr (some c)), .inl i] (hp X D) = some (some (.inl (D (c + 2) (Int.tmod i (D (c + 1) 1)).toNat)), hp X D) := by
  have b1 : 0 ≤ Int.tmod i (D (c + 1) 1) := Int.tmod_nonneg _ h1
  have b2 : Int.tmod i (D (c + 1) 1) < D (c + 1) 1 := Int.tmod_lt_of_pos _ (by omega)
  rw [rf_e_C_railAt]
  simp only [rg_C_g0 h, rg_row_gI h.r1, Int.reduceToNat, rg_kIs, rg_kLs, rg_kRs, rg_kVs, rg_nns, rg_bs, cond_true, cond_false]
  rw [if_pos (by omega), rf_e_JM_floorMod, if_neg (by omega), if_neg (rg_xor0 h1 h1b (by omega) (by omega))]
  simp only [rg_hp1, rg_row_o h.r1, Int.reduceToNat, rg_kIs, rg_kLs, rg_kRs, rg_kVs, rg_nns, rg_bs, cond_true, cond_false]
  rw [rg_R_cellI h.r1 d b1 b2 h3]
  try rfl
end RGC
/-! the relation of the class's consist and trains to a row of numbers -/
def CR (D : rf_D) (c : Nat) (s : Nat → Int) (W : Int) : Prop :=
  (D c 7 = s 0 ∧ D c 10 = s 1 ∧ D (c + 1) 1 = s 2) ∧ (∀ i : Nat, (i : Int) < s 2 → D (c + 2) i = s (3 + i)) ∧ (D (c + 3) 1 = W ∧ D (c + 5) 1 = W ∧ D (c + 7) 1 = W ∧ D (c + 9) 1 = W ∧ D (c + 11) 1 = W + 1 ∧ D (c + 13) 1 = W + 1) ∧ (0 ≤ W ∧ W ≤ 6) ∧
  (∀ i : Nat, (i : Int) < W → D (c + 4) i = s (9 + 3 * i) ∧ D (c + 6) i = s (10 + 3 * i) ∧ D (c + 8) i = s (11 + 3 * i) ∧ D (c + 10) i = sp_holds s (i : Int) - sp_slack s (i : Int)) ∧
  ∀ n : Nat, (n : Int) ≤ W → D (c + 12) n = sp_load (rg_ui s 31 1) n ∧ D (c + 14) n = sp_load (rg_ui s 31 0) n
def TR (f s : Nat → Int) (g : Int) : Prop := (f 2 = s 27 ∧ f 3 = s 28 ∧ f 4 = s 29) ∧ (f 9 = s 30 ∧ f 10 = s 31 ∧ f 11 = 1 - s 32) ∧ (f 5 = s 33 ∧ f 8 = s 34 ∧ f 7 = s 35 - g ∧ f 6 = s 36)
/-- a train of the class, and the next one of its chain -/
def rg_tr (t : Nat) : Prop := rf_isO rg_T t 3 = true ∧ rg_P t 0 = some 28
theorem rg_tr_43 : rg_tr 43 := ⟨rfl, rg_Pe (by decide +kernel)⟩
theorem rg_tr_70 {j : Nat} (h : j < 7) : rg_tr (70 + j) := by
  rcases j with _ | _ | _ | _ | _ | _ | _ | j
  · exact ⟨rfl, rg_Pe (by decide +kernel)⟩
  · exact ⟨rfl, rg_Pe (by decide +kernel)⟩
  · exact ⟨rfl, rg_Pe (by decide +kernel)⟩
  · exact ⟨rfl, rg_Pe (by decide +kernel)⟩
  · exact ⟨rfl, rg_Pe (by decide +kernel)⟩
  · exact ⟨rfl, rg_Pe (by decide +kernel)⟩
  · exact ⟨rfl, rg_Pe (by decide +kernel)⟩
  · omega
section RGT
variable {X : rf_X} {D : rf_D} {t : Nat} {s : Nat → Int} {W g m : Int}
theorem rg_T_g0 (h : rg_tr t) : rf_gR (hp X D) 3 t 0 = some (some 28) := (rg_gR h.1).trans (congrArg some h.2)
theorem rg_T_gI (h : rg_tr t) (i : Nat) : rf_gI (hp X D) 3 t i = some (D t i) := rg_gI h.1
theorem rg_T_pI (h : rg_tr t) (i : Nat) (v : Int) : rf_pI (hp X D) 3 t i v = some (hp X (rg_up D t (rg_ui (D t) i v))) := rg_pI h.1
theorem rg_T_loadOf (h : rg_tr t) (hC : CR D 28 s W) (d : Nat) {n : Int} (h1 : 0 ≤ n) (h2 : n ≤ W) (hb : D t 10 = s 31) (hb2 : s 31 = 0 ∨ s 31 = 1) : rf_call (d + 2) 43 [.inr (.inr (some t)), .inl n] (hp X D) = some (some (.inl (sp_load s n.toNat)), hp X D) := by
  obtain ⟨k, rfl⟩ := Int.eq_ofNat_of_zero_le h1
  have hc := rg_con_28
  obtain ⟨-, -, ⟨-, -, -, -, w5, w6⟩, hW, -, hl⟩ := hC
  have hl := hl k h2
  rw [rf_e_T_loadOf]
  simp only [rg_T_gI h, rg_T_g0 h, rg_C_g5 hc, rg_C_g6 hc, rg_hp1, rg_row_o hc.r11, rg_row_o hc.r13, Int.reduceToNat, rg_kIs, rg_kLs, rg_kRs, rg_kVs, rg_nns, rg_bs, cond_true, cond_false]
  rw [hb]
  rcases hb2 with b0 | b0
  · rw [if_pos b0, rg_R_cellI hc.r13 d h1 (by omega) (by omega)]
    simp only [Int.reduceToNat, rg_kIs, rg_kLs, rg_kRs, rg_kVs, rg_nns, rg_bs, cond_true, cond_false]
    rw [show ((k : Int)).toNat = k by omega, hl.2, ← b0, rg_ui_i]
  · rw [if_neg (by omega), rg_R_cellI hc.r11 d h1 (by omega) (by omega)]
    simp only [Int.reduceToNat, rg_kIs, rg_kLs, rg_kRs, rg_kVs, rg_nns, rg_bs, cond_true, cond_false]
    rw [show ((k : Int)).toNat = k by omega, hl.1, ← b0, rg_ui_i]
theorem rg_T_strainOf (h : rg_tr t) (hC : CR D 28 s W) (hd : sp_hd s) (d : Nat) {i st : Int} (h1 : 0 ≤ i) (h2 : i < W) (hb : D t 10 = s 31) (hb2 : s 31 = 0 ∨ s 31 = 1) (s0 : 0 ≤ st) (s9 : st ≤ 9) : rf_call (d + 3) 44 [.inr (.inr (some t)), .inl i, .inl st] (hp X D) = some (some (.inl (2 * st - sp_load s (i + 1).toNat - (sp_holds s i - sp_slack s i))), hp X D) := by
  have hW := hC.2.2.2.1
  have b1 := sp_ld hd (n := (i + 1).toNat) (by omega)
  have b2 := sp_hb hd h1 (by omega)
  have hc := rg_con_28
  rw [rf_e_T_strainOf]
  simp only [rg_hp1, h.1, Int.reduceToNat, rg_kIs, rg_kLs, rg_kRs, rg_kVs, rg_nns, rg_bs, cond_true, cond_false]
  rw [rg_w (z := i + 1) (by omega) (by omega), rg_T_loadOf h hC (d + 0) (by omega) (by omega) hb hb2]
  simp only [rg_T_g0 h, rg_C_g4 hc, rg_hp1, rg_row_o hc.r9, Int.reduceToNat, rg_kIs, rg_kLs, rg_kRs, rg_kVs, rg_nns, rg_bs, cond_true, cond_false]
  obtain ⟨k, rfl⟩ := Int.eq_ofNat_of_zero_le h1
  have w4 := hC.2.2.1.2.2.2.1
  have e := (hC.2.2.2.2.1 k h2).2.2.2
  rw [rg_R_cellI hc.r9 (d + 1) h1 (by omega) (by omega)]
  simp only [Int.reduceToNat, rg_kIs, rg_kLs, rg_kRs, rg_kVs, rg_nns, rg_bs, cond_true, cond_false]
  rw [show ((k : Int)).toNat = k by omega, e, rg_w (z := 2 * st) (by omega) (by omega), rg_w (z := 2 * st - _) (by omega) (by omega), rg_w (by omega) (by omega)]
theorem rg_T_gripOn (h : rg_tr t) (hC : CR D 28 s W) (hd : sp_hd s) (hs : sp_st m s) (d : Nat) {r b : Int} (r0 : 0 ≤ r) (r2 : r ≤ 2) (h4 : D t 4 = s 29) : rf_call (d + 2) 42 [.inr (.inr (some t)), .inl r, .inl b] (hp X D) = some (some (.inl (if b = 0 then sp_bare s r else sp_bare s r + 3)), hp X D) := by
  have b1 := sp_bb hd hs r0 r2
  have hc := rg_con_28
  rw [rf_e_T_gripOn]
  simp only [rg_T_g0 h, rg_C_gI hc, rg_T_gI h, rf_e_W_gripFactor, rg_J_max, Int.reduceToNat, rg_kIs, rg_kLs, rg_kRs, rg_kVs, rg_nns, rg_bs, cond_true, cond_false]
  rw [hC.1.1, h4]
  have e : (if 0 < rf_w (rf_w (s 0 * rf_w (3 - r)) - s 29) then rf_w (rf_w (s 0 * rf_w (3 - r)) - s 29) else 0) = sp_bare s r := by
    unfold sp_bare
    by_cases q : rf_w (rf_w (s 0 * rf_w (3 - r)) - s 29) < 0
    · rw [if_pos q, if_neg (by omega)]
    · rw [if_neg q]
      by_cases q2 : 0 < rf_w (rf_w (s 0 * rf_w (3 - r)) - s 29)
      · rw [if_pos q2]
      · rw [if_neg q2]
        omega
  rw [e]
  by_cases q : b = 0
  · rw [if_pos q, if_pos q]
  · rw [if_neg q, if_neg q, rg_w (by omega) (by omega)]
theorem sp_gripb {s : Nat → Int} (hd : sp_hd s) {m : Int} (hs : sp_st m s) {r : Int} (r0 : 0 ≤ r) (r2 : r ≤ 2) : (if s 30 = 0 then sp_bare s r else sp_bare s r + 3) = sp_grip s r := by
  have a := sp_gb hd hs r0 r2
  rw [a.1]
  have := hs.2.2.2.1
  by_cases q : s 30 = 0
  · rw [if_pos q, if_neg (by omega)]
    omega
  · rw [if_neg q, if_pos (by omega)]
theorem rg_T_rail (h : rg_tr t) (hC : CR D 28 s W) (hd : sp_hd s) (hs : sp_st m s) (hm : m ≤ 1000000) (d : Nat) (h8 : D t 8 = s 34) : rf_call (d + 3) 39 [.inr (.inr (some t))] (hp X D) = some (some (.inl (sp_rail s)), hp X D) := by
  have hc := rg_con_28
  have a2 := hd.2.2.1
  have a34 := hs.2.2.2.2.2.2.2.1
  rw [rf_e_T_rail]
  simp only [rg_T_g0 h, rg_T_gI h, rg_hp1, hc.1, Int.reduceToNat, rg_kIs, rg_kLs, rg_kRs, rg_kVs, rg_nns, rg_bs, cond_true, cond_false]
  have e := hC.1.2.2
  rw [h8, rg_C_railAt hc d a34.1 (by omega) (by omega) (by omega)]
  simp only [Int.reduceToNat, rg_kIs, rg_kLs, rg_kRs, rg_kVs, rg_nns, rg_bs, cond_true, cond_false]
  rw [e]
  have b1 : 0 ≤ Int.tmod (s 34) (s 2) := Int.tmod_nonneg _ a34.1
  have b2 : Int.tmod (s 34) (s 2) < s 2 := Int.tmod_lt_of_pos _ (by omega)
  have k := hC.2.1 (Int.tmod (s 34) (s 2)).toNat (by omega)
  rw [show (28 + 2) = 28 + 2 from rfl, k]
  unfold sp_rail
  rw [show (3 + Int.tmod (s 34) (s 2)).toNat = 3 + (Int.tmod (s 34) (s 2)).toNat by omega]
theorem sp_rail_02 {s : Nat → Int} (hd : sp_hd s) {m : Int} (hs : sp_st m s) : 0 ≤ sp_rail s ∧ sp_rail s ≤ 2 := by
  have a2 := hd.2.2.1
  have a34 := hs.2.2.2.2.2.2.2.1
  have b1 : 0 ≤ Int.tmod (s 34) (s 2) := Int.tmod_nonneg _ a34.1
  have b2 : Int.tmod (s 34) (s 2) < s 2 := Int.tmod_lt_of_pos _ (by omega)
  have k := hd.2.2.2.1 (Int.tmod (s 34) (s 2)).toNat (by omega)
  unfold sp_rail
  rw [show (3 + Int.tmod (s 34) (s 2)).toNat = 3 + (Int.tmod (s 34) (s 2)).toNat by omega]
  exact k
theorem rg_T_canBe (h : rg_tr t) (hT : TR (D t) s g) (hs : sp_st m s) (d : Nat) {th : Int} (t0 : 0 ≤ th) (t14 : th ≤ 14) : rf_call (d + 1) 47 [.inr (.inr (some t)), .inl th] (hp X D) = some (some (.inl (if sp_can s th = true then 1 else 0)), hp X D) := by
  obtain ⟨⟨e2, e3, e4⟩, ⟨e9, e10, e11⟩, e5, e8, e7, e6⟩ := hT
  have b32 := hs.2.2.2.2.2.1
  rw [rf_e_T_canBe]
  simp only [rg_T_gI h, Int.reduceToNat, rg_kIs, rg_kLs, rg_kRs, rg_kVs, rg_nns, rg_bs, cond_true, cond_false, e2, e3, e11]
  unfold sp_can
  by_cases a1 : 9 < th
  · rw [if_pos a1, if_neg (show ¬ th < 10 by omega)]
    by_cases a2 : th = 10
    · rw [if_pos a2, if_pos a2]
      by_cases a3 : 0 < s 28
      · rw [if_pos a3, if_pos (decide_eq_true a3)]
      · rw [if_neg a3, if_neg (fun q => a3 (of_decide_eq_true q))]
    · rw [if_neg a2, if_neg a2]
      by_cases a3 : th = 14
      · rw [if_pos a3, if_neg (show ¬ th < 14 by omega)]
        by_cases a4 : s 32 = 1
        · rw [if_pos (by omega), if_pos (decide_eq_true a4)]
        · rw [if_neg (by omega), if_neg (fun q => a4 (of_decide_eq_true q))]
      · rw [if_neg a3, if_pos (show th < 14 by omega), if_pos rfl]
  · rw [if_neg a1, if_pos (show th < 10 by omega)]
    by_cases a2 : s 27 < th
    · rw [if_pos a2, if_neg (fun q => absurd (of_decide_eq_true q) (by omega))]
    · rw [if_neg a2, if_pos (decide_eq_true (by omega))]
theorem rg_T_c103 (h : rg_tr t) (hC : CR D 28 s W) (hT : TR (D t) s g) (hs : sp_st m s) (hW : s 36 ≤ W) (d : Nat) (P : Int) : rf_j_T_comesOf_103 (d + 2) t P (hp X D) = some (some (.inl (if P < sp_load s (s 33).toNat ∧ s 31 = 0 then 5 else 0)), hp X D) := by
  obtain ⟨⟨e2, e3, e4⟩, ⟨e9, e10, e11⟩, e5, e8, e7, e6⟩ := hT
  have a33 := hs.2.2.2.2.2.2.1
  have b31 := hs.2.2.2.2.1
  rw [rf_e_T_comesOf_103]
  simp only [rg_T_gI h, rg_hp1, h.1, Int.reduceToNat, rg_kIs, rg_kLs, rg_kRs, rg_kVs, rg_nns, rg_bs, cond_true, cond_false, e10, e5]
  by_cases a1 : s 31 = 0
  · rw [if_pos a1, rg_T_loadOf h hC d a33.1 (by omega) e10 b31]
    simp only [Int.reduceToNat, rg_kIs, rg_kLs, rg_kRs, rg_kVs, rg_nns, rg_bs, cond_true, cond_false]
    by_cases a2 : P < sp_load s (s 33).toNat
    · rw [if_pos a2, if_pos (show P < sp_load s (s 33).toNat ∧ s 31 = 0 from ⟨a2, a1⟩)]
    · rw [if_neg a2, if_neg (show ¬ (P < sp_load s (s 33).toNat ∧ s 31 = 0) from fun q => a2 q.1)]
  · rw [if_neg a1, if_neg (show ¬ (P < sp_load s (s 33).toNat ∧ s 31 = 0) from fun q => a1 q.2)]
theorem rg_T_comesOf (h : rg_tr t) (hC : CR D 28 s W) (hd : sp_hd s) (hT : TR (D t) s g) (hs : sp_st m s) (hW : s 36 ≤ W) (d : Nat) {st r : Int} (s0 : 0 ≤ st) (s9 : st ≤ 9) (r0 : 0 ≤ r) (r2 : r ≤ 2) : rf_call (d + 4) 41 [.inr (.inr (some t)), .inl st, .inl r] (hp X D) = some (some (.inl (sp_gives s st r).1), hp X D) := by
  have hT' := hT
  obtain ⟨⟨e2, e3, e4⟩, ⟨e9, e10, e11⟩, e5, e8, e7, e6⟩ := hT
  have a33 := hs.2.2.2.2.2.2.1
  have b31 := hs.2.2.2.2.1
  have w6 := hC.2.2.2.1
  have ew : rf_w (2 * st) = 2 * st := rg_w (by omega) (by omega)
  rw [rf_e_T_comesOf]
  simp only [rg_T_gI h, rg_hp1, h.1, Int.reduceToNat, rg_kIs, rg_kLs, rg_kRs, rg_kVs, rg_nns, rg_bs, cond_true, cond_false, e9, ew]
  rw [rg_T_gripOn h hC hd hs (d + 1) r0 r2 e4]
  simp only [Int.reduceToNat, rg_kIs, rg_kLs, rg_kRs, rg_kVs, rg_nns, rg_bs, cond_true, cond_false, sp_gripb hd hs r0 r2, rg_T_gI h, rg_hp1, h.1, e5, e6, e10]
  unfold sp_gives
  rw [ew]
  by_cases a1 : sp_grip s r < 2 * st
  · rw [if_pos a1, if_pos a1]
  · rw [if_neg a1, if_neg a1]
    by_cases a2 : s 33 = s 36
    · rw [if_pos a2, if_neg (show ¬ sp_takes s st = true from fun q => (of_decide_eq_true q).1 a2)]
      have eg : sp_goes s st = true ↔ (sp_load s (s 33).toNat ≤ 2 * st ∧ s 31 = 0) := by
        unfold sp_goes
        rw [ew, decide_eq_true_iff]
        exact ⟨fun q => q.2, fun q => ⟨a2, q⟩⟩
      have er : sp_rolls s st = true ↔ (2 * st < sp_load s (s 33).toNat ∧ s 31 = 0) := by
        unfold sp_rolls
        rw [ew, decide_eq_true_iff]
      by_cases a3 : s 31 = 0
      · rw [if_pos a3, rg_T_loadOf h hC (d + 1) (n := s 36) (by omega) hW e10 b31]
        simp only [Int.reduceToNat, rg_kIs, rg_kLs, rg_kRs, rg_kVs, rg_nns, rg_bs, cond_true, cond_false]
        rw [← a2]
        by_cases a4 : 2 * st < sp_load s (s 33).toNat
        · rw [if_pos a4, rg_T_c103 h hC hT' hs hW (d + 1), if_pos (show 2 * st < sp_load s (s 33).toNat ∧ s 31 = 0 from ⟨a4, a3⟩), if_neg (fun q => by have := (eg.mp q).1; omega), if_pos (er.mpr ⟨a4, a3⟩)]
        · rw [if_neg a4, if_pos (eg.mpr ⟨by omega, a3⟩)]
      · rw [if_neg a3, rg_T_c103 h hC hT' hs hW (d + 1), if_neg (show ¬ (2 * st < sp_load s (s 33).toNat ∧ s 31 = 0) from fun q => a3 q.2), if_neg (fun q => a3 (eg.mp q).2), if_neg (fun q => a3 (er.mp q).2)]
    · rw [if_neg a2, rg_w (z := s 33 + 1) (by omega) (by omega), rg_T_loadOf h hC (d + 1) (by omega) (by omega) e10 b31]
      simp only [Int.reduceToNat, rg_kIs, rg_kLs, rg_kRs, rg_kVs, rg_nns, rg_bs, cond_true, cond_false, rg_T_gI h, rg_hp1, h.1, e5, e6, e10]
      rw [rg_w (z := s 33 + 1) (by omega) (by omega), rg_T_strainOf h hC hd d a33.1 (by omega) e10 b31 s0 s9]
      simp only [Int.reduceToNat, rg_kIs, rg_kLs, rg_kRs, rg_kVs, rg_nns, rg_bs, cond_true, cond_false]
      have et : sp_takes s st = true ↔ (sp_load s (s 33 + 1).toNat ≤ 2 * st ∧ (s 33 + 1 < s 36 ∨ s 31 = 0)) := by
        unfold sp_takes
        rw [ew, decide_eq_true_iff]
        exact ⟨fun q => q.2, fun q => ⟨a2, q⟩⟩
      have eg : ¬ sp_goes s st = true := fun q => a2 (of_decide_eq_true q).1
      have er : sp_rolls s st = true ↔ (2 * st < sp_load s (s 33).toNat ∧ s 31 = 0) := by
        unfold sp_rolls
        rw [ew, decide_eq_true_iff]
      have b1 := sp_ld hd (n := (s 33 + 1).toNat) (by omega)
      have b2 := sp_hb hd a33.1 (i := s 33) (by omega)
      have etr : sp_tears s st = true ↔ 0 < 2 * st - sp_load s (s 33 + 1).toNat - (sp_holds s (s 33) - sp_slack s (s 33)) := by
        unfold sp_tears
        rw [ew, rg_w (z := 2 * st - _) (by omega) (by omega), rg_w (by omega) (by omega), decide_eq_true_iff]
        omega
      have c103 := rg_T_c103 (X := X) h hC hT' hs hW (d + 1) (2 * st)
      have fin : (some (some (.inl (if 2 * st < sp_load s (s 33).toNat ∧ s 31 = 0 then (5 : Int) else 0)), hp X D) : Option rf_R) = some (some (.inl (if sp_rolls s st = true then ((5 : Int), rg_ui (sp_less s st) 33 0) else (0, sp_less s st)).1), hp X D) := by
        by_cases q : 2 * st < sp_load s (s 33).toNat ∧ s 31 = 0
        · rw [if_pos q, if_pos (er.mpr q)]
        · rw [if_neg q, if_neg (fun z => q (er.mp z))]
      have tk : ((if 0 < 2 * st - sp_load s (s 33 + 1).toNat - (sp_holds s (s 33) - sp_slack s (s 33)) then some (some (.inl 3), hp X D) else some (some (.inl 2), hp X D)) : Option rf_R) = some (some (.inl (if sp_tears s st = true then ((3 : Int), rg_ui (rg_ui (rg_ui (sp_less s st) 36 (s 33)) 31 0) 32 0) else (2, rg_ui (sp_less s st) 33 (s 33 + 1))).1), hp X D) := by
        by_cases q : sp_tears s st = true
        · rw [if_pos q, if_pos (etr.mp q)]
        · rw [if_neg q, if_neg (fun z => q (etr.mpr z))]
      by_cases a3 : 2 * st < sp_load s (s 33 + 1).toNat
      · rw [if_pos a3, c103, if_neg (show ¬ sp_takes s st = true from fun q => by have := (et.mp q).1; omega), if_neg eg]
        exact fin
      · rw [if_neg a3]
        by_cases a4 : s 33 + 1 < s 36
        · rw [if_pos a4, if_pos (et.mpr ⟨by omega, Or.inl a4⟩)]
          exact tk
        · rw [if_neg a4]
          by_cases a5 : s 31 = 0
          · rw [if_pos a5, if_pos (et.mpr ⟨by omega, Or.inr a5⟩)]
            exact tk
          · rw [if_neg a5, c103, if_neg (show ¬ sp_takes s st = true from fun q => by have := (et.mp q).2; omega), if_neg eg]
            exact fin
end RGT
