/-! A copy among rows. -/
def cpG (D : rf_D) (R I N : Nat) : Nat → Int := fun q => if 0 ≤ q ∧ q < N then D 79 (40 * R + I + q) else D 86 q
def cpF (D : rf_D) (R I T J N : Nat) : Nat → Int := fun q => if 40 * T + J + 0 ≤ q ∧ q < 40 * T + J + N then cpG D R I N (q - (40 * T + J)) else D 79 q
def cpE (D : rf_D) (R I T J N : Nat) : rf_D := rf_cpD D (44 + 2 * R + 1) I (44 + 2 * T + 1) J N
theorem cpE_n {D : rf_D} {R I T J N : Nat} {a : Nat} (h : a ≠ 44 + 2 * T + 1) : cpE D R I T J N a = D a := by
  funext k
  exact if_neg fun z => h z.1
theorem cpE_s {D : rf_D} {R I T J N : Nat} (k : Nat) : cpE D R I T J N (44 + 2 * T + 1) k = if J ≤ k ∧ k < J + N then D (44 + 2 * R + 1) (I + (k - J)) else D (44 + 2 * T + 1) k := by
  by_cases h : J ≤ k ∧ k < J + N
  · rw [if_pos h]
    exact if_pos ⟨rfl, h⟩
  · rw [if_neg h]
    exact if_neg fun h' => h h'.2
theorem cpG_s {D : rf_D} {R I N q : Nat} (h : q < N) : cpG D R I N q = D 79 (40 * R + I + q) := if_pos ⟨Nat.zero_le _, h⟩
theorem cpF_y {D : rf_D} {R I T J N k : Nat} (h : J ≤ k ∧ k < J + N) : cpF D R I T J N (40 * T + k) = D 79 (40 * R + (I + (k - J))) := by
  unfold cpF
  rw [if_pos (by omega), cpG_s (by omega), show 40 * R + I + (40 * T + k - (40 * T + J)) = 40 * R + (I + (k - J)) by omega]
theorem cpF_n {D : rf_D} {R I T J N q : Nat} (h : ¬ (40 * T + J ≤ q ∧ q < 40 * T + J + N)) : cpF D R I T J N q = D 79 q := if_neg h
theorem cp_inv {D : rf_D} (hI : Inv D) {R I T J N : Nat} (hR : R < 6) (hT : T < 6) (h1 : (I : Int) + (N : Int) ≤ D (44 + 2 * R) 1) (h2 : (J : Int) + (N : Int) ≤ D (44 + 2 * T) 1) : Inv (rg_up (rg_up (cpE D R I T J N) 86 (cpG D R I N)) 79 (cpF D R I T J N)) := by
  obtain ⟨q1, q2, q3, q4⟩ := hI.1 R hR
  obtain ⟨p1, p2, p3, p4⟩ := hI.1 T hT
  have hI2 : Inv (rg_up (cpE D R I T J N) 79 (cpF D R I T J N)) := by
    refine hI.rowchg hT (fun a z1 z2 z3 z4 => ?_) (fun q _ => ?_) (fun k zk => ?_) ?_
    · rw [rg_up_n z4, cpE_n z2]
    · rw [rg_up_n (by decide), cpE_n (by omega)]
    · rw [rg_up_s, cpF_n (by omega)]
    · rw [rg_up_s, rg_up_n (show (78 : Nat) ≠ 79 by decide), rg_up_n (show 44 + 2 * T ≠ 79 by omega), rg_up_n (show 44 + 2 * T + 1 ≠ 79 by omega), cpE_n (show 78 ≠ 44 + 2 * T + 1 by omega), cpE_n (show 44 + 2 * T ≠ 44 + 2 * T + 1 by omega)]
      refine ⟨p1, p2, p3, fun k hk => ⟨?_, fun h => h.elim⟩⟩
      rw [cpE_s]
      by_cases h : J ≤ k ∧ k < J + N
      · rw [if_pos h, cpF_y h]
        exact (q4 _ (by omega)).1
      · rw [if_neg h, cpF_n (by omega)]
        exact (p4 k hk).1
  refine hI2.scr (fun a _ _ _ _ _ _ h => ?_) ?_ ?_ (fun k _ _ => ?_)
  · by_cases h9 : a = 79
    · rw [h9, rg_up_s, rg_up_s]
    · rw [rg_up_n h9, rg_up_n (by omega), rg_up_n h9]
  · rw [rg_up_n (by decide), rg_up_n (by decide), rg_up_n (by decide)]
  · rw [rg_up_n (by decide), rg_up_n (by decide), rg_up_n (by decide)]
  · rw [rg_up_n (by decide), rg_up_n (by decide), rg_up_n (by decide)]
section RGS5
variable {X : rf_X} {D : rf_D}
theorem cp_loops (d : Nat) {R I T J N : Nat} (hR : R < 6) (hT : T < 6) (h1 : I + N ≤ 40) (h2 : J + N ≤ 40) : rf_j_M_copy_104 d 77 (R : Int) (I : Int) (T : Int) (J : Int) (N : Int) 0 (hp X (cpE D R I T J N)) = some (some (.inl 1), hp X (rg_up (rg_up (cpE D R I T J N) 86 (cpG D R I N)) 79 (cpF D R I T J N))) := by
  have l1 := rg_M_copy_104 (X := X) d hR (I := I) (N := N) h1 (T : Int) (J : Int) N 0 (cpE D R I T J N) (by omega)
  rw [cpE_n (show 79 ≠ 44 + 2 * T + 1 by omega), cpE_n (show 86 ≠ 44 + 2 * T + 1 by omega)] at l1
  have l2 := rg_M_copy_141 (X := X) d hT (J := J) (N := N) h2 N 0 (rg_up (cpE D R I T J N) 86 (cpG D R I N)) (by omega)
  rw [rg_up_s, rg_up_n (show (79 : Nat) ≠ 86 by decide), cpE_n (show 79 ≠ 44 + 2 * T + 1 by omega)] at l2
  exact l1.trans l2
theorem cp1_W (hI : Inv D) (d : Nat) {R T : Nat} (hR : R < 6) (hT : T < 6) (hr : 0 ≤ (R : Int) ∧ (R : Int) < 6) (ht : 0 ≤ (T : Int) ∧ (T : Int) < 6) {i j n : Int} (hn : n < 0) : rf_call (d + 8) 63 [.inr (.inr (some 0)), .inl (R : Int), .inl i, .inl (T : Int), .inl j, .inl n] (hp X D) = some (some (.inl (-3)), hp X (wfd 5 D)) := by
  have h6 := hI.2.2.1.2.1
  have row := rg_rowN (X := X) (D := D) hR
  obtain ⟨q1, q2, q3, q4⟩ := hI.1 R hR
  have tow := rg_rowN (X := X) (D := D) hT
  obtain ⟨p1, p2, p3, p4⟩ := hI.1 T hT
  rw [rf_e_W_copy]
  try simp only [rg_gR_0_0, Int.reduceToNat, rg_kIs, rg_kLs, rg_kRs, rg_kVs, rg_nns, rg_bs, cond_true, cond_false]
  rw [rg_W_pick_y (n := 6) (d + 6) (rg_aL_1 X D) hr row.2]
  try simp only [rg_gR_0_0, Int.reduceToNat, rg_kIs, rg_kLs, rg_kRs, rg_kVs, rg_nns, rg_bs, cond_true, cond_false]
  rw [rg_W_pick_y (n := 6) (d + 6) (rg_aL_1 X D) ht tow.2]
  try simp only [rg_hp1, rg_o_0, rg_row_o row.1, rg_row_o tow.1, rg_nzs, Int.reduceToNat, rg_kIs, rg_kLs, rg_kRs, rg_kVs, rg_nns, rg_bs, cond_true, cond_false]
  rw [if_pos hn]
  try simp only [rg_hp1, rg_o_0, Int.reduceToNat, rg_kIs, rg_kLs, rg_kRs, rg_kVs, rg_nns, rg_bs, cond_true, cond_false]
  rw [rg_W_found (d + 4) (by decide) (by decide) h6]
  try simp only [Int.reduceToNat, rg_kIs, rg_kLs, rg_kRs, rg_kVs, rg_nns, rg_bs, cond_true, cond_false]
theorem cp1_M (hI : Inv D) (d : Nat) {R T : Nat} (hR : R < 6) (hT : T < 6) (hr : 0 ≤ (R : Int) ∧ (R : Int) < 6) (ht : 0 ≤ (T : Int) ∧ (T : Int) < 6) {i j n : Int} (hn : n < 0) : rf_call (d + 8) 124 [.inr (.inr (some 77)), .inl (R : Int), .inl i, .inl (T : Int), .inl j, .inl n] (hp X (wfd 5 D)) = some (some (.inl (-3)), hp X (mfd 5 (wfd 5 D))) := by
  have h6 := hI.2.2.1.2.1
  have row := rg_rowN (X := X) (D := D) hR
  obtain ⟨q1, q2, q3, q4⟩ := hI.1 R hR
  have tow := rg_rowN (X := X) (D := D) hT
  obtain ⟨p1, p2, p3, p4⟩ := hI.1 T hT
  rw [rf_e_M_copy, rg_M_isRow]
  try simp only [if_pos hr, Int.reduceToNat, rg_kIs, rg_kLs, rg_kRs, rg_kVs, rg_nns, rg_bs, cond_true, cond_false]
  rw [if_neg (by decide), rg_M_isRow]
  try simp only [if_pos ht, Int.reduceToNat, rg_kIs, rg_kLs, rg_kRs, rg_kVs, rg_nns, rg_bs, cond_true, cond_false]
  rw [if_neg (by decide)]
  try simp only [rg_gR_77_0, Int.reduceToNat, rg_kIs, rg_kLs, rg_kRs, rg_kVs, rg_nns, rg_bs, cond_true, cond_false]
  rw [if_pos hn]
  try simp only [rg_hp1, rg_o_77, Int.reduceToNat, rg_kIs, rg_kLs, rg_kRs, rg_kVs, rg_nns, rg_bs, cond_true, cond_false]
  rw [rg_M_finds (d + 6) (by decide) (by decide)]
  try simp only [Int.reduceToNat, rg_kIs, rg_kLs, rg_kRs, rg_kVs, rg_nns, rg_bs, cond_true, cond_false]
theorem cp2_W (hI : Inv D) (d : Nat) {R T : Nat} (hR : R < 6) (hT : T < 6) (hr : 0 ≤ (R : Int) ∧ (R : Int) < 6) (ht : 0 ≤ (T : Int) ∧ (T : Int) < 6) {i j n : Int} (hn : ¬ n < 0) (z : D (44 + 2 * R) 1 < 0) : rf_call (d + 8) 63 [.inr (.inr (some 0)), .inl (R : Int), .inl i, .inl (T : Int), .inl j, .inl n] (hp X D) = some (some (.inl (-3)), hp X (wfd 1 D)) := by
  have h6 := hI.2.2.1.2.1
  have row := rg_rowN (X := X) (D := D) hR
  obtain ⟨q1, q2, q3, q4⟩ := hI.1 R hR
  have tow := rg_rowN (X := X) (D := D) hT
  obtain ⟨p1, p2, p3, p4⟩ := hI.1 T hT
  rw [rf_e_W_copy]
  try simp only [rg_gR_0_0, Int.reduceToNat, rg_kIs, rg_kLs, rg_kRs, rg_kVs, rg_nns, rg_bs, cond_true, cond_false]
  rw [rg_W_pick_y (n := 6) (d + 6) (rg_aL_1 X D) hr row.2]
  try simp only [rg_gR_0_0, Int.reduceToNat, rg_kIs, rg_kLs, rg_kRs, rg_kVs, rg_nns, rg_bs, cond_true, cond_false]
  rw [rg_W_pick_y (n := 6) (d + 6) (rg_aL_1 X D) ht tow.2]
  try simp only [rg_hp1, rg_o_0, rg_row_o row.1, rg_row_o tow.1, rg_nzs, Int.reduceToNat, rg_kIs, rg_kLs, rg_kRs, rg_kVs, rg_nns, rg_bs, cond_true, cond_false]
  rw [if_neg hn]
  rw [rg_R_isThere row.1]
  try simp only [Int.reduceToNat, rg_kIs, rg_kLs, rg_kRs, rg_kVs, rg_nns, rg_bs, cond_true, cond_false]
  rw [if_pos z, if_pos (by decide)]
  try simp only [rg_hp1, rg_row_o row.1, rg_row_o tow.1, Int.reduceToNat, rg_kIs, rg_kLs, rg_kRs, rg_kVs, rg_nns, rg_bs, cond_true, cond_false]
  try simp only [rg_hp1, rg_o_0, Int.reduceToNat, rg_kIs, rg_kLs, rg_kRs, rg_kVs, rg_nns, rg_bs, cond_true, cond_false]
  rw [rg_W_found (d + 4) (by decide) (by decide) h6]
  try simp only [Int.reduceToNat, rg_kIs, rg_kLs, rg_kRs, rg_kVs, rg_nns, rg_bs, cond_true, cond_false]
theorem cp2_M (hI : Inv D) (d : Nat) {R T : Nat} (hR : R < 6) (hT : T < 6) (hr : 0 ≤ (R : Int) ∧ (R : Int) < 6) (ht : 0 ≤ (T : Int) ∧ (T : Int) < 6) {i j n : Int} (hn : ¬ n < 0) (z : D (44 + 2 * R) 1 < 0) : rf_call (d + 8) 124 [.inr (.inr (some 77)), .inl (R : Int), .inl i, .inl (T : Int), .inl j, .inl n] (hp X (wfd 1 D)) = some (some (.inl (-3)), hp X (mfd 1 (wfd 1 D))) := by
  have h6 := hI.2.2.1.2.1
  have row := rg_rowN (X := X) (D := D) hR
  obtain ⟨q1, q2, q3, q4⟩ := hI.1 R hR
  have tow := rg_rowN (X := X) (D := D) hT
  obtain ⟨p1, p2, p3, p4⟩ := hI.1 T hT
  rw [rf_e_M_copy, rg_M_isRow]
  try simp only [if_pos hr, Int.reduceToNat, rg_kIs, rg_kLs, rg_kRs, rg_kVs, rg_nns, rg_bs, cond_true, cond_false]
  rw [if_neg (by decide), rg_M_isRow]
  try simp only [if_pos ht, Int.reduceToNat, rg_kIs, rg_kLs, rg_kRs, rg_kVs, rg_nns, rg_bs, cond_true, cond_false]
  rw [if_neg (by decide)]
  try simp only [rg_gR_77_0, Int.reduceToNat, rg_kIs, rg_kLs, rg_kRs, rg_kVs, rg_nns, rg_bs, cond_true, cond_false]
  rw [if_neg hn]
  rw [rg_aI_78 (by omega) (by omega)]
  try simp only [Int.reduceToNat, rg_kIs, rg_kLs, rg_kRs, rg_kVs, rg_nns, rg_bs, cond_true, cond_false]
  rw [rg_tN, wfd_n (by decide) (by decide), q1, if_pos z]
  try simp only [rg_gR_77_0, Int.reduceToNat, rg_kIs, rg_kLs, rg_kRs, rg_kVs, rg_nns, rg_bs, cond_true, cond_false]
  try simp only [rg_hp1, rg_o_77, Int.reduceToNat, rg_kIs, rg_kLs, rg_kRs, rg_kVs, rg_nns, rg_bs, cond_true, cond_false]
  rw [rg_M_finds (d + 6) (by decide) (by decide)]
  try simp only [Int.reduceToNat, rg_kIs, rg_kLs, rg_kRs, rg_kVs, rg_nns, rg_bs, cond_true, cond_false]
theorem cp3_W (hI : Inv D) (d : Nat) {R T : Nat} (hR : R < 6) (hT : T < 6) (hr : 0 ≤ (R : Int) ∧ (R : Int) < 6) (ht : 0 ≤ (T : Int) ∧ (T : Int) < 6) {i j n : Int} (hn : ¬ n < 0) (z : ¬ D (44 + 2 * R) 1 < 0) (zt : D (44 + 2 * T) 1 < 0) : rf_call (d + 8) 63 [.inr (.inr (some 0)), .inl (R : Int), .inl i, .inl (T : Int), .inl j, .inl n] (hp X D) = some (some (.inl (-3)), hp X (wfd 1 D)) := by
  have h6 := hI.2.2.1.2.1
  have row := rg_rowN (X := X) (D := D) hR
  obtain ⟨q1, q2, q3, q4⟩ := hI.1 R hR
  have tow := rg_rowN (X := X) (D := D) hT
  obtain ⟨p1, p2, p3, p4⟩ := hI.1 T hT
  rw [rf_e_W_copy]
  try simp only [rg_gR_0_0, Int.reduceToNat, rg_kIs, rg_kLs, rg_kRs, rg_kVs, rg_nns, rg_bs, cond_true, cond_false]
  rw [rg_W_pick_y (n := 6) (d + 6) (rg_aL_1 X D) hr row.2]
  try simp only [rg_gR_0_0, Int.reduceToNat, rg_kIs, rg_kLs, rg_kRs, rg_kVs, rg_nns, rg_bs, cond_true, cond_false]
  rw [rg_W_pick_y (n := 6) (d + 6) (rg_aL_1 X D) ht tow.2]
  try simp only [rg_hp1, rg_o_0, rg_row_o row.1, rg_row_o tow.1, rg_nzs, Int.reduceToNat, rg_kIs, rg_kLs, rg_kRs, rg_kVs, rg_nns, rg_bs, cond_true, cond_false]
  rw [if_neg hn]
  rw [rg_R_isThere row.1]
  try simp only [Int.reduceToNat, rg_kIs, rg_kLs, rg_kRs, rg_kVs, rg_nns, rg_bs, cond_true, cond_false]
  rw [if_neg z, if_neg (by decide)]
  try simp only [rg_hp1, rg_row_o row.1, rg_row_o tow.1, Int.reduceToNat, rg_kIs, rg_kLs, rg_kRs, rg_kVs, rg_nns, rg_bs, cond_true, cond_false]
  rw [rg_R_isThere tow.1]
  try simp only [Int.reduceToNat, rg_kIs, rg_kLs, rg_kRs, rg_kVs, rg_nns, rg_bs, cond_true, cond_false]
  rw [if_pos zt, if_pos (by decide)]
  try simp only [rg_hp1, rg_row_o row.1, rg_row_o tow.1, Int.reduceToNat, rg_kIs, rg_kLs, rg_kRs, rg_kVs, rg_nns, rg_bs, cond_true, cond_false]
  try simp only [rg_hp1, rg_o_0, Int.reduceToNat, rg_kIs, rg_kLs, rg_kRs, rg_kVs, rg_nns, rg_bs, cond_true, cond_false]
  rw [rg_W_found (d + 4) (by decide) (by decide) h6]
  try simp only [Int.reduceToNat, rg_kIs, rg_kLs, rg_kRs, rg_kVs, rg_nns, rg_bs, cond_true, cond_false]
theorem cp3_M (hI : Inv D) (d : Nat) {R T : Nat} (hR : R < 6) (hT : T < 6) (hr : 0 ≤ (R : Int) ∧ (R : Int) < 6) (ht : 0 ≤ (T : Int) ∧ (T : Int) < 6) {i j n : Int} (hn : ¬ n < 0) (z : ¬ D (44 + 2 * R) 1 < 0) (zt : D (44 + 2 * T) 1 < 0) : rf_call (d + 8) 124 [.inr (.inr (some 77)), .inl (R : Int), .inl i, .inl (T : Int), .inl j, .inl n] (hp X (wfd 1 D)) = some (some (.inl (-3)), hp X (mfd 1 (wfd 1 D))) := by
  have h6 := hI.2.2.1.2.1
  have row := rg_rowN (X := X) (D := D) hR
  obtain ⟨q1, q2, q3, q4⟩ := hI.1 R hR
  have tow := rg_rowN (X := X) (D := D) hT
  obtain ⟨p1, p2, p3, p4⟩ := hI.1 T hT
  rw [rf_e_M_copy, rg_M_isRow]
  try simp only [if_pos hr, Int.reduceToNat, rg_kIs, rg_kLs, rg_kRs, rg_kVs, rg_nns, rg_bs, cond_true, cond_false]
  rw [if_neg (by decide), rg_M_isRow]
  try simp only [if_pos ht, Int.reduceToNat, rg_kIs, rg_kLs, rg_kRs, rg_kVs, rg_nns, rg_bs, cond_true, cond_false]
  rw [if_neg (by decide)]
  try simp only [rg_gR_77_0, Int.reduceToNat, rg_kIs, rg_kLs, rg_kRs, rg_kVs, rg_nns, rg_bs, cond_true, cond_false]
  rw [if_neg hn]
  rw [rg_aI_78 (by omega) (by omega)]
  try simp only [Int.reduceToNat, rg_kIs, rg_kLs, rg_kRs, rg_kVs, rg_nns, rg_bs, cond_true, cond_false]
  rw [rg_tN, wfd_n (by decide) (by decide), q1, if_neg z]
  try simp only [rg_gR_77_0, Int.reduceToNat, rg_kIs, rg_kLs, rg_kRs, rg_kVs, rg_nns, rg_bs, cond_true, cond_false]
  rw [rg_aI_78 (by omega) (by omega)]
  try simp only [Int.reduceToNat, rg_kIs, rg_kLs, rg_kRs, rg_kVs, rg_nns, rg_bs, cond_true, cond_false]
  rw [rg_tN, wfd_n (by decide) (by decide), p1, if_pos zt]
  try simp only [rg_gR_77_0, Int.reduceToNat, rg_kIs, rg_kLs, rg_kRs, rg_kVs, rg_nns, rg_bs, cond_true, cond_false]
  try simp only [rg_hp1, rg_o_77, Int.reduceToNat, rg_kIs, rg_kLs, rg_kRs, rg_kVs, rg_nns, rg_bs, cond_true, cond_false]
  rw [rg_M_finds (d + 6) (by decide) (by decide)]
  try simp only [Int.reduceToNat, rg_kIs, rg_kLs, rg_kRs, rg_kVs, rg_nns, rg_bs, cond_true, cond_false]
theorem cp_wl {i n : Int} (bi : I32 i) (bn : I32 n) : rf_wl (i + n) = i + n := by
  unfold I32 at bi bn
  exact rg_wl (by omega) (by omega)
theorem cp_arith {i j n a b : Int} (h1 : ¬ n < 0) (h2 : ¬ i < 0) (h3 : ¬ j < 0) (h4 : ¬ a < i + n) (h5 : ¬ b < j + n) : 0 ≤ i ∧ 0 ≤ j ∧ 0 ≤ n ∧ i + n ≤ a ∧ j + n ≤ b := by omega
theorem cp4_W (hI : Inv D) (d : Nat) {R T : Nat} (hR : R < 6) (hT : T < 6) (hr : 0 ≤ (R : Int) ∧ (R : Int) < 6) (ht : 0 ≤ (T : Int) ∧ (T : Int) < 6) {i j n : Int} (hn : ¬ n < 0) (z : ¬ D (44 + 2 * R) 1 < 0) (zt : ¬ D (44 + 2 * T) 1 < 0) (bi : I32 i) (bj : I32 j) (bn : I32 n) (hc : ¬ (0 ≤ i ∧ 0 ≤ j ∧ 0 ≤ n ∧ i + n ≤ D (44 + 2 * R) 1 ∧ j + n ≤ D (44 + 2 * T) 1)) : rf_call (d + 8) 63 [.inr (.inr (some 0)), .inl (R : Int), .inl i, .inl (T : Int), .inl j, .inl n] (hp X D) = some (some (.inl (-3)), hp X (wfd 2 D)) := by
  have h6 := hI.2.2.1.2.1
  have row := rg_rowN (X := X) (D := D) hR
  obtain ⟨q1, q2, q3, q4⟩ := hI.1 R hR
  have tow := rg_rowN (X := X) (D := D) hT
  obtain ⟨p1, p2, p3, p4⟩ := hI.1 T hT
  rw [rf_e_W_copy]
  try simp only [rg_gR_0_0, Int.reduceToNat, rg_kIs, rg_kLs, rg_kRs, rg_kVs, rg_nns, rg_bs, cond_true, cond_false]
  rw [rg_W_pick_y (n := 6) (d + 6) (rg_aL_1 X D) hr row.2]
  try simp only [rg_gR_0_0, Int.reduceToNat, rg_kIs, rg_kLs, rg_kRs, rg_kVs, rg_nns, rg_bs, cond_true, cond_false]
  rw [rg_W_pick_y (n := 6) (d + 6) (rg_aL_1 X D) ht tow.2]
  try simp only [rg_hp1, rg_o_0, rg_row_o row.1, rg_row_o tow.1, rg_nzs, Int.reduceToNat, rg_kIs, rg_kLs, rg_kRs, rg_kVs, rg_nns, rg_bs, cond_true, cond_false]
  have tk := rg_R_takes (X := X) (D := D) tow.1 row.1 (d + 5) (i := i) (j := j) (k := n) p2 p3 q2 q3 (by decide) (by decide) bi.2 bj.2
  rw [if_neg hc] at tk
  rw [if_neg hn]
  rw [rg_R_isThere row.1]
  try simp only [Int.reduceToNat, rg_kIs, rg_kLs, rg_kRs, rg_kVs, rg_nns, rg_bs, cond_true, cond_false]
  rw [if_neg z, if_neg (by decide)]
  try simp only [rg_hp1, rg_row_o row.1, rg_row_o tow.1, Int.reduceToNat, rg_kIs, rg_kLs, rg_kRs, rg_kVs, rg_nns, rg_bs, cond_true, cond_false]
  rw [rg_R_isThere tow.1]
  try simp only [Int.reduceToNat, rg_kIs, rg_kLs, rg_kRs, rg_kVs, rg_nns, rg_bs, cond_true, cond_false]
  rw [if_neg zt, if_neg (by decide)]
  try simp only [rg_hp1, rg_row_o row.1, rg_row_o tow.1, Int.reduceToNat, rg_kIs, rg_kLs, rg_kRs, rg_kVs, rg_nns, rg_bs, cond_true, cond_false]
  rw [tk]
  try simp only [Int.reduceToNat, rg_kIs, rg_kLs, rg_kRs, rg_kVs, rg_nns, rg_bs, cond_true, cond_false]
  rw [if_pos (by decide)]
  try simp only [rg_hp1, rg_o_0, Int.reduceToNat, rg_kIs, rg_kLs, rg_kRs, rg_kVs, rg_nns, rg_bs, cond_true, cond_false]
  rw [rg_W_found (d + 4) (by decide) (by decide) h6]
  try simp only [Int.reduceToNat, rg_kIs, rg_kLs, rg_kRs, rg_kVs, rg_nns, rg_bs, cond_true, cond_false]
theorem cp4_M (hI : Inv D) (d : Nat) {R T : Nat} (hR : R < 6) (hT : T < 6) (hr : 0 ≤ (R : Int) ∧ (R : Int) < 6) (ht : 0 ≤ (T : Int) ∧ (T : Int) < 6) {i j n : Int} (hn : ¬ n < 0) (z : ¬ D (44 + 2 * R) 1 < 0) (zt : ¬ D (44 + 2 * T) 1 < 0) (bi : I32 i) (bj : I32 j) (bn : I32 n) (hc : ¬ (0 ≤ i ∧ 0 ≤ j ∧ 0 ≤ n ∧ i + n ≤ D (44 + 2 * R) 1 ∧ j + n ≤ D (44 + 2 * T) 1)) : rf_call (d + 8) 124 [.inr (.inr (some 77)), .inl (R : Int), .inl i, .inl (T : Int), .inl j, .inl n] (hp X (wfd 2 D)) = some (some (.inl (-3)), hp X (mfd 2 (wfd 2 D))) := by
  have h6 := hI.2.2.1.2.1
  have row := rg_rowN (X := X) (D := D) hR
  obtain ⟨q1, q2, q3, q4⟩ := hI.1 R hR
  have tow := rg_rowN (X := X) (D := D) hT
  obtain ⟨p1, p2, p3, p4⟩ := hI.1 T hT
  rw [rf_e_M_copy, rg_M_isRow]
  try simp only [if_pos hr, Int.reduceToNat, rg_kIs, rg_kLs, rg_kRs, rg_kVs, rg_nns, rg_bs, cond_true, cond_false]
  rw [if_neg (by decide), rg_M_isRow]
  try simp only [if_pos ht, Int.reduceToNat, rg_kIs, rg_kLs, rg_kRs, rg_kVs, rg_nns, rg_bs, cond_true, cond_false]
  rw [if_neg (by decide)]
  try simp only [rg_gR_77_0, Int.reduceToNat, rg_kIs, rg_kLs, rg_kRs, rg_kVs, rg_nns, rg_bs, cond_true, cond_false]
  have c95 : rf_j_M_copy_95 (d + 7) 77 (hp X (wfd 2 D)) = some (some (.inl (-3)), hp X (mfd 2 (wfd 2 D))) := by
    rw [rf_e_M_copy_95]
    try simp only [rg_hp1, rg_o_77, Int.reduceToNat, rg_kIs, rg_kLs, rg_kRs, rg_kVs, rg_nns, rg_bs, cond_true, cond_false]
    rw [rg_M_finds (d + 6) (by decide) (by decide)]
    try simp only [Int.reduceToNat, rg_kIs, rg_kLs, rg_kRs, rg_kVs, rg_nns, rg_bs, cond_true, cond_false]
  rw [if_neg hn]
  rw [rg_aI_78 (by omega) (by omega)]
  try simp only [Int.reduceToNat, rg_kIs, rg_kLs, rg_kRs, rg_kVs, rg_nns, rg_bs, cond_true, cond_false]
  rw [rg_tN, wfd_n (by decide) (by decide), q1, if_neg z]
  try simp only [rg_gR_77_0, Int.reduceToNat, rg_kIs, rg_kLs, rg_kRs, rg_kVs, rg_nns, rg_bs, cond_true, cond_false]
  rw [rg_aI_78 (by omega) (by omega)]
  try simp only [Int.reduceToNat, rg_kIs, rg_kLs, rg_kRs, rg_kVs, rg_nns, rg_bs, cond_true, cond_false]
  rw [rg_tN, wfd_n (by decide) (by decide), p1, if_neg zt]
  try simp only [rg_gR_77_0, Int.reduceToNat, rg_kIs, rg_kLs, rg_kRs, rg_kVs, rg_nns, rg_bs, cond_true, cond_false]
  by_cases a1 : i < 0
  · rw [if_pos a1, c95]
  · rw [if_neg a1]
    by_cases a2 : j < 0
    · rw [if_pos a2, c95]
    · rw [if_neg a2, cp_wl bi bn, cp_wl bj bn]
      try simp only [rg_cmpp, Int.reduceToNat, rg_kIs, rg_kLs, rg_kRs, rg_kVs, rg_nns, rg_bs, cond_true, cond_false]
      by_cases a3 : D (44 + 2 * R) 1 < i + n
      · rw [if_pos a3, c95]
      · rw [if_neg a3]
        by_cases a4 : D (44 + 2 * T) 1 < j + n
        · rw [if_pos a4, c95]
        · exact absurd (cp_arith hn a1 a2 a3 a4) hc
theorem cp5_W (hI : Inv D) (d : Nat) {R T : Nat} (hR : R < 6) (hT : T < 6) (hr : 0 ≤ (R : Int) ∧ (R : Int) < 6) (ht : 0 ≤ (T : Int) ∧ (T : Int) < 6) {I J N : Nat} (z : ¬ D (44 + 2 * R) 1 < 0) (zt : ¬ D (44 + 2 * T) 1 < 0) (bi : I32 (I : Int)) (bj : I32 (J : Int)) (bn : I32 (N : Int)) (hc : 0 ≤ (I : Int) ∧ 0 ≤ (J : Int) ∧ 0 ≤ (N : Int) ∧ (I : Int) + (N : Int) ≤ D (44 + 2 * R) 1 ∧ (J : Int) + (N : Int) ≤ D (44 + 2 * T) 1) : rf_call (d + 8) 63 [.inr (.inr (some 0)), .inl (R : Int), .inl (I : Int), .inl (T : Int), .inl (J : Int), .inl (N : Int)] (hp X D) = some (some (.inl 1), hp X (cpE D R I T J N)) := by
  have h6 := hI.2.2.1.2.1
  have row := rg_rowN (X := X) (D := D) hR
  obtain ⟨q1, q2, q3, q4⟩ := hI.1 R hR
  have tow := rg_rowN (X := X) (D := D) hT
  obtain ⟨p1, p2, p3, p4⟩ := hI.1 T hT
  rw [rf_e_W_copy]
  try simp only [rg_gR_0_0, Int.reduceToNat, rg_kIs, rg_kLs, rg_kRs, rg_kVs, rg_nns, rg_bs, cond_true, cond_false]
  rw [rg_W_pick_y (n := 6) (d + 6) (rg_aL_1 X D) hr row.2]
  try simp only [rg_gR_0_0, Int.reduceToNat, rg_kIs, rg_kLs, rg_kRs, rg_kVs, rg_nns, rg_bs, cond_true, cond_false]
  rw [rg_W_pick_y (n := 6) (d + 6) (rg_aL_1 X D) ht tow.2]
  try simp only [rg_hp1, rg_o_0, rg_row_o row.1, rg_row_o tow.1, rg_nzs, Int.reduceToNat, rg_kIs, rg_kLs, rg_kRs, rg_kVs, rg_nns, rg_bs, cond_true, cond_false]
  have tk := rg_R_takes (X := X) (D := D) tow.1 row.1 (d + 5) (i := (I : Int)) (j := (J : Int)) (k := (N : Int)) p2 p3 q2 q3 (by decide) (by decide) bi.2 bj.2
  rw [if_pos hc, rg_tN, rg_tN, rg_tN] at tk
  rw [if_neg (Int.not_lt.mpr hc.2.2.1)]
  rw [rg_R_isThere row.1]
  try simp only [Int.reduceToNat, rg_kIs, rg_kLs, rg_kRs, rg_kVs, rg_nns, rg_bs, cond_true, cond_false]
  rw [if_neg z, if_neg (by decide)]
  try simp only [rg_hp1, rg_row_o row.1, rg_row_o tow.1, Int.reduceToNat, rg_kIs, rg_kLs, rg_kRs, rg_kVs, rg_nns, rg_bs, cond_true, cond_false]
  rw [rg_R_isThere tow.1]
  try simp only [Int.reduceToNat, rg_kIs, rg_kLs, rg_kRs, rg_kVs, rg_nns, rg_bs, cond_true, cond_false]
  rw [if_neg zt, if_neg (by decide)]
  try simp only [rg_hp1, rg_row_o row.1, rg_row_o tow.1, Int.reduceToNat, rg_kIs, rg_kLs, rg_kRs, rg_kVs, rg_nns, rg_bs, cond_true, cond_false]
  rw [tk]
  try simp only [Int.reduceToNat, rg_kIs, rg_kLs, rg_kRs, rg_kVs, rg_nns, rg_bs, cond_true, cond_false]
  rw [if_neg (by decide)]
  exact rfl
theorem cp5_P (hI : Inv D) (d : Nat) {R T : Nat} (hR : R < 6) (hT : T < 6) (hr : 0 ≤ (R : Int) ∧ (R : Int) < 6) (ht : 0 ≤ (T : Int) ∧ (T : Int) < 6) {i j n : Int} {E : rf_D} (e78 : E 78 = D 78) (hn : ¬ n < 0) (hi : ¬ i < 0) (hj : ¬ j < 0) (z : ¬ D (44 + 2 * R) 1 < 0) (zt : ¬ D (44 + 2 * T) 1 < 0) (bi : I32 i) (bj : I32 j) (bn : I32 n) (c1 : ¬ D (44 + 2 * R) 1 < i + n) (c2 : ¬ D (44 + 2 * T) 1 < j + n) : rf_call (d + 8) 124 [.inr (.inr (some 77)), .inl (R : Int), .inl i, .inl (T : Int), .inl j, .inl n] (hp X E) = rf_j_M_copy_104 (d + 7) 77 (R : Int) i (T : Int) j n 0 (hp X E) := by
  have h6 := hI.2.2.1.2.1
  have row := rg_rowN (X := X) (D := D) hR
  obtain ⟨q1, q2, q3, q4⟩ := hI.1 R hR
  have tow := rg_rowN (X := X) (D := D) hT
  obtain ⟨p1, p2, p3, p4⟩ := hI.1 T hT
  rw [rf_e_M_copy, rg_M_isRow]
  try simp only [if_pos hr, Int.reduceToNat, rg_kIs, rg_kLs, rg_kRs, rg_kVs, rg_nns, rg_bs, cond_true, cond_false]
  rw [if_neg (by decide), rg_M_isRow]
  try simp only [if_pos ht, Int.reduceToNat, rg_kIs, rg_kLs, rg_kRs, rg_kVs, rg_nns, rg_bs, cond_true, cond_false]
  rw [if_neg (by decide)]
  try simp only [rg_gR_77_0, Int.reduceToNat, rg_kIs, rg_kLs, rg_kRs, rg_kVs, rg_nns, rg_bs, cond_true, cond_false]
  rw [if_neg hn]
  rw [rg_aI_78 (by omega) (by omega)]
  try simp only [Int.reduceToNat, rg_kIs, rg_kLs, rg_kRs, rg_kVs, rg_nns, rg_bs, cond_true, cond_false]
  rw [rg_tN, e78, q1, if_neg z]
  try simp only [rg_gR_77_0, Int.reduceToNat, rg_kIs, rg_kLs, rg_kRs, rg_kVs, rg_nns, rg_bs, cond_true, cond_false]
  rw [rg_aI_78 (by omega) (by omega)]
  try simp only [Int.reduceToNat, rg_kIs, rg_kLs, rg_kRs, rg_kVs, rg_nns, rg_bs, cond_true, cond_false]
  rw [rg_tN, e78, p1, if_neg zt]
  try simp only [rg_gR_77_0, Int.reduceToNat, rg_kIs, rg_kLs, rg_kRs, rg_kVs, rg_nns, rg_bs, cond_true, cond_false]
  rw [if_neg hi, if_neg hj, cp_wl bi bn, cp_wl bj bn]
  try simp only [rg_cmpp, Int.reduceToNat, rg_kIs, rg_kLs, rg_kRs, rg_kVs, rg_nns, rg_bs, cond_true, cond_false]
  rw [if_neg c1, if_neg c2]
theorem cp5_M (hI : Inv D) (d : Nat) {R T : Nat} (hR : R < 6) (hT : T < 6) (hr : 0 ≤ (R : Int) ∧ (R : Int) < 6) (ht : 0 ≤ (T : Int) ∧ (T : Int) < 6) {I J N : Nat} (z : ¬ D (44 + 2 * R) 1 < 0) (zt : ¬ D (44 + 2 * T) 1 < 0) (bi : I32 (I : Int)) (bj : I32 (J : Int)) (bn : I32 (N : Int)) (hc : 0 ≤ (I : Int) ∧ 0 ≤ (J : Int) ∧ 0 ≤ (N : Int) ∧ (I : Int) + (N : Int) ≤ D (44 + 2 * R) 1 ∧ (J : Int) + (N : Int) ≤ D (44 + 2 * T) 1) : rf_call (d + 8) 124 [.inr (.inr (some 77)), .inl (R : Int), .inl (I : Int), .inl (T : Int), .inl (J : Int), .inl (N : Int)] (hp X (cpE D R I T J N)) = some (some (.inl 1), hp X (rg_up (rg_up (cpE D R I T J N) 86 (cpG D R I N)) 79 (cpF D R I T J N))) := by
  have q3 := (hI.1 R hR).2.2.1
  have p3 := (hI.1 T hT).2.2.1
  exact (cp5_P hI d hR hT hr ht (E := cpE D R I T J N) (cpE_n (by omega)) (Int.not_lt.mpr hc.2.2.1) (Int.not_lt.mpr hc.1) (Int.not_lt.mpr hc.2.1) z zt bi bj bn (Int.not_lt.mpr hc.2.2.2.1) (Int.not_lt.mpr hc.2.2.2.2)).trans (cp_loops (d + 7) hR hT (by omega) (by omega))
theorem st_copy (hI : Inv D) (d : Nat) {r i t j n : Int} (bi : I32 i) (bj : I32 j) (bn : I32 n) : Ag X D (d + 8) 63 124 [.inl r, .inl i, .inl t, .inl j, .inl n] := by
  unfold Ag
  by_cases hr : 0 ≤ r ∧ r < 6
  · obtain ⟨R, rfl⟩ := Int.eq_ofNat_of_zero_le hr.1
    have hR : R < 6 := by omega
    have row := rg_rowN (X := X) (D := D) hR
    by_cases ht : 0 ≤ t ∧ t < 6
    · obtain ⟨T, rfl⟩ := Int.eq_ofNat_of_zero_le ht.1
      have hT : T < 6 := by omega
      by_cases hn : n < 0
      · exact ⟨-3, wfd 5 D, mfd 5 (wfd 5 D), cp1_W hI d hR hT hr ht hn, cp1_M hI d hR hT hr ht hn, hI.fd (by decide) (by decide)⟩
      · by_cases z : D (44 + 2 * R) 1 < 0
        · exact ⟨-3, wfd 1 D, mfd 1 (wfd 1 D), cp2_W hI d hR hT hr ht hn z, cp2_M hI d hR hT hr ht hn z, hI.fd (by decide) (by decide)⟩
        · by_cases zt : D (44 + 2 * T) 1 < 0
          · exact ⟨-3, wfd 1 D, mfd 1 (wfd 1 D), cp3_W hI d hR hT hr ht hn z zt, cp3_M hI d hR hT hr ht hn z zt, hI.fd (by decide) (by decide)⟩
          · by_cases hc : 0 ≤ i ∧ 0 ≤ j ∧ 0 ≤ n ∧ i + n ≤ D (44 + 2 * R) 1 ∧ j + n ≤ D (44 + 2 * T) 1
            · obtain ⟨I, rfl⟩ := Int.eq_ofNat_of_zero_le hc.1
              obtain ⟨J, rfl⟩ := Int.eq_ofNat_of_zero_le hc.2.1
              obtain ⟨N, rfl⟩ := Int.eq_ofNat_of_zero_le hc.2.2.1
              exact ⟨1, cpE D R I T J N, _, cp5_W hI d hR hT hr ht z zt bi bj bn hc, cp5_M hI d hR hT hr ht z zt bi bj bn hc, cp_inv hI hR hT hc.2.2.2.1 hc.2.2.2.2⟩
            · exact ⟨-3, wfd 2 D, mfd 2 (wfd 2 D), cp4_W hI d hR hT hr ht hn z zt bi bj bn hc, cp4_M hI d hR hT hr ht hn z zt bi bj bn hc, hI.fd (by decide) (by decide)⟩
    · refine ⟨-1, D, D, ?_, ?_, hI⟩
      · rw [rf_e_W_copy]
        try simp only [rg_gR_0_0, Int.reduceToNat, rg_kIs, rg_kLs, rg_kRs, rg_kVs, rg_nns, rg_bs, cond_true, cond_false]
        rw [rg_W_pick_y (n := 6) (d + 6) (rg_aL_1 X D) hr row.2]
        try simp only [rg_gR_0_0, Int.reduceToNat, rg_kIs, rg_kLs, rg_kRs, rg_kVs, rg_nns, rg_bs, cond_true, cond_false]
        rw [rg_W_pick_n (n := 6) (d + 6) (rg_aL_1 X D) ht]
        try simp only [rg_nzs, rg_nzn, Int.reduceToNat, rg_kIs, rg_kLs, rg_kRs, rg_kVs, rg_nns, rg_bs, cond_true, cond_false]
      · rw [rf_e_M_copy, rg_M_isRow]
        try simp only [if_pos hr, Int.reduceToNat, rg_kIs, rg_kLs, rg_kRs, rg_kVs, rg_nns, rg_bs, cond_true, cond_false]
        rw [if_neg (by decide), rg_M_isRow]
        try simp only [if_neg ht, Int.reduceToNat, rg_kIs, rg_kLs, rg_kRs, rg_kVs, rg_nns, rg_bs, cond_true, cond_false]
        rw [if_pos (by decide)]
  · refine ⟨-1, D, D, ?_, ?_, hI⟩
    · rw [rf_e_W_copy]
      try simp only [rg_gR_0_0, Int.reduceToNat, rg_kIs, rg_kLs, rg_kRs, rg_kVs, rg_nns, rg_bs, cond_true, cond_false]
      rw [rg_W_pick_n (n := 6) (d + 6) (rg_aL_1 X D) hr]
      try simp only [rg_gR_0_0, Int.reduceToNat, rg_kIs, rg_kLs, rg_kRs, rg_kVs, rg_nns, rg_bs, cond_true, cond_false]
      by_cases ht : 0 ≤ t ∧ t < 6
      · obtain ⟨T, rfl⟩ := Int.eq_ofNat_of_zero_le ht.1
        have tow := rg_rowN (X := X) (D := D) (R := T) (by omega)
        rw [rg_W_pick_y (n := 6) (d + 6) (rg_aL_1 X D) ht tow.2]
        try simp only [rg_nzn, Int.reduceToNat, rg_kIs, rg_kLs, rg_kRs, rg_kVs, rg_nns, rg_bs, cond_true, cond_false]
      · rw [rg_W_pick_n (n := 6) (d + 6) (rg_aL_1 X D) ht]
        try simp only [rg_nzn, Int.reduceToNat, rg_kIs, rg_kLs, rg_kRs, rg_kVs, rg_nns, rg_bs, cond_true, cond_false]
    · rw [rf_e_M_copy, rg_M_isRow]
      try simp only [if_neg hr, Int.reduceToNat, rg_kIs, rg_kLs, rg_kRs, rg_kVs, rg_nns, rg_bs, cond_true, cond_false]
      rw [if_pos (by decide)]
end RGS5
