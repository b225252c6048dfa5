/-! The mean of a row, a copy, a text's fault; what is read off. -/
theorem Inv.scr {D D' : rf_D} (hI : Inv D) (e : ∀ a, a ≠ 8 → a ≠ 9 → a ≠ 10 → a ≠ 11 → (a < 12 ∨ 27 < a) → (a < 70 ∨ 77 < a) → (a < 86 ∨ 90 < a) → D' a = D a) (e8 : D' 8 1 = D 8 1) (e10 : D' 10 1 = D 10 1) (e77 : ∀ j, 8 ≤ j → j ≤ 11 → D' 77 j = D 77 j) : Inv D' := by
  obtain ⟨h1, h2, h3, h4, h5⟩ := hI
  have f : ∀ a, (a < 8 ∨ (28 ≤ a ∧ a < 70) ∨ (78 ≤ a ∧ a < 86)) → D' a = D a := fun a z => e a (by omega) (by omega) (by omega) (by omega) (by omega) (by omega) (by omega)
  refine ⟨h1.of (f _ (by decide)) (f _ (by decide)) fun k z1 z2 => f k (by omega), h2.of (f _ (by decide)) (f _ (by decide)) fun k z1 z2 => f k (by omega), ?_, ?_, h5.of (by rw [f 0 (by decide)]) fun a z => f a (by omega)⟩
  · exact h3.of (f _ (by decide)) (f _ (by decide)) (f _ (by decide)) (e77 8 (by decide) (by decide)) (by rw [f 0 (by decide)]) (by rw [e77 9 (by decide) (by decide), f 0 (by decide)]; exact h3.2.2.2.1) (e77 10 (by decide) (by decide)) (by rw [f 0 (by decide)]) (e77 11 (by decide) (by decide)) (by rw [f 0 (by decide)])
  · unfold ISz
    rw [e8, e10]
    exact h4
theorem rg_wl {z : Int} (h1 : -9223372036854775808 ≤ z) (h2 : z < 9223372036854775808) : rf_wl z = z := by unfold rf_wl; omega
def I32 (z : Int) : Prop := -2147483648 ≤ z ∧ z ≤ 2147483647
theorem rg_sum_of {f g : Nat → Int} : ∀ {z : Nat}, (∀ j, j < z → f j = g j) → rg_sum f z = rg_sum g z
  | 0, _ => rfl
  | z + 1, h => by
    show rf_wl (rg_sum f z + f z) = rf_wl (rg_sum g z + g z)
    rw [rg_sum_of fun j hj => h j (by omega), h z (by omega)]
section RGS4
variable {X : rf_X} {D : rf_D}
theorem rg_M_mean_44 (d : Nat) {R z : Nat} (hR : R < 6) (hz : z ≤ 40) (h78 : D 78 R = (z : Int)) : ∀ (k i : Nat), i + k = z → rf_j_M_mean_44 d 77 (R : Int) (rg_sum (fun j => D 79 (40 * R + j)) i) (i : Int) (hp X D) = rf_j_M_mean_44 d 77 (R : Int) (rg_sum (fun j => D 79 (40 * R + j)) z) (z : Int) (hp X D)
  | 0, i, hk => by rw [show i = z by omega]
  | k + 1, i, hk => by
    have x1 : rf_w (rf_w (40 * (R : Int)) + (i : Int)) = ((40 * R + i : Nat) : Int) := by
      rw [rg_w (z := 40 * (R : Int)) (by omega) (by omega), rg_w (by omega) (by omega)]
      omega
    have x2 : rf_w ((i : Int) + 1) = ((i + 1 : Nat) : Int) := by
      rw [rg_w (by omega) (by omega)]
      omega
    have ih := rg_M_mean_44 d hR hz h78 k (i + 1) (by omega)
    rw [← ih, rf_e_M_mean_44]
    try simp only [rg_gR_77_0, rg_gR_77_1, Int.reduceToNat, rg_kIs, rg_kLs, rg_kRs, rg_kVs, rg_nns, rg_bs, cond_true, cond_false, x1, x2]
    rw [rg_aI_78 (by omega) (by omega)]
    try simp only [Int.reduceToNat, rg_kIs, rg_kLs, rg_kRs, rg_kVs, rg_nns, rg_bs, cond_true, cond_false]
    rw [rg_tN, h78, if_pos (by omega), rg_aI_79 (by omega) (by omega)]
    try simp only [Int.reduceToNat, rg_kIs, rg_kLs, rg_kRs, rg_kVs, rg_nns, rg_bs, cond_true, cond_false]
    rw [rg_tN]
    try rfl
theorem rg_M_copy_104 (d : Nat) {R I N : Nat} (hR : R < 6) (hI : I + N ≤ 40) (T J : Int) : ∀ (k i : Nat) (D : rf_D), i + k = N → rf_j_M_copy_104 d 77 (R : Int) (I : Int) T J (N : Int) (i : Int) (hp X D) = rf_j_M_copy_141 d 77 T J (N : Int) 0 (hp X (rg_up D 86 (fun q => if i ≤ q ∧ q < N then D 79 (40 * R + I + q) else D 86 q)))
  | 0, i, D, hk => by
    rw [rf_e_M_copy_104, if_neg (by omega)]
    have e : (fun q => if i ≤ q ∧ q < N then D 79 (40 * R + I + q) else D 86 q) = D 86 := by
      funext q
      rw [if_neg (by omega)]
    rw [e, rg_up_i]
  | k + 1, i, D, hk => by
    have x1 : rf_w (rf_w (rf_w (40 * (R : Int)) + (I : Int)) + (i : Int)) = ((40 * R + I + i : Nat) : Int) := by
      rw [rg_w (z := 40 * (R : Int)) (by omega) (by omega), rg_w (z := 40 * (R : Int) + (I : Int)) (by omega) (by omega), rg_w (by omega) (by omega)]
      omega
    have x2 : rf_w ((i : Int) + 1) = ((i + 1 : Nat) : Int) := by
      rw [rg_w (by omega) (by omega)]
      omega
    rw [rf_e_M_copy_104, if_pos (by omega)]
    try simp only [rg_gR_77_12, rg_gR_77_1, Int.reduceToNat, rg_kIs, rg_kLs, rg_kRs, rg_kVs, rg_nns, rg_bs, cond_true, cond_false, x1, x2]
    rw [rg_aI_79 (by omega) (by omega)]
    try simp only [Int.reduceToNat, rg_kIs, rg_kLs, rg_kRs, rg_kVs, rg_nns, rg_bs, cond_true, cond_false]
    rw [rg_sI_86 (by omega) (by omega)]
    try simp only [Int.reduceToNat, rg_kIs, rg_kLs, rg_kRs, rg_kVs, rg_nns, rg_bs, cond_true, cond_false]
    rw [rg_M_copy_104 d hR hI T J k (i + 1) _ (by omega), rg_up_u, rg_up_s, rg_up_n (by decide), rg_tN, rg_tN]
    refine congrArg (fun f : Nat → Int => rf_j_M_copy_141 d 77 T J (N : Int) 0 (hp X (rg_up D 86 f))) (funext fun q => ?_)
    show (if i + 1 ≤ q ∧ q < N then D 79 (40 * R + I + q) else (if q = i then D 79 (40 * R + I + i) else D 86 q)) = (if i ≤ q ∧ q < N then D 79 (40 * R + I + q) else D 86 q)
    by_cases h1 : i + 1 ≤ q ∧ q < N
    · rw [if_pos h1, if_pos (by omega)]
    · rw [if_neg h1]
      by_cases h2 : q = i
      · rw [if_pos h2, if_pos (by omega), h2]
      · rw [if_neg h2, if_neg (by omega)]
theorem rg_M_copy_141 (d : Nat) {T J N : Nat} (hT : T < 6) (hJ : J + N ≤ 40) : ∀ (k i : Nat) (D : rf_D), i + k = N → rf_j_M_copy_141 d 77 (T : Int) (J : Int) (N : Int) (i : Int) (hp X D) = some (some (.inl 1), hp X (rg_up D 79 (fun q => if 40 * T + J + i ≤ q ∧ q < 40 * T + J + N then D 86 (q - (40 * T + J)) else D 79 q)))
  | 0, i, D, hk => by
    rw [rf_e_M_copy_141, if_neg (by omega)]
    have e : (fun q => if 40 * T + J + i ≤ q ∧ q < 40 * T + J + N then D 86 (q - (40 * T + J)) else D 79 q) = D 79 := by
      funext q
      rw [if_neg (by omega)]
    rw [e, rg_up_i]
  | k + 1, i, D, hk => by
    have x1 : rf_w (rf_w (rf_w (40 * (T : Int)) + (J : Int)) + (i : Int)) = ((40 * T + J + i : Nat) : Int) := by
      rw [rg_w (z := 40 * (T : Int)) (by omega) (by omega), rg_w (z := 40 * (T : Int) + (J : Int)) (by omega) (by omega), rg_w (by omega) (by omega)]
      omega
    have x2 : rf_w ((i : Int) + 1) = ((i + 1 : Nat) : Int) := by
      rw [rg_w (by omega) (by omega)]
      omega
    rw [rf_e_M_copy_141, if_pos (by omega)]
    try simp only [rg_gR_77_12, rg_gR_77_1, Int.reduceToNat, rg_kIs, rg_kLs, rg_kRs, rg_kVs, rg_nns, rg_bs, cond_true, cond_false, x1, x2]
    rw [rg_aI_86 (by omega) (by omega)]
    try simp only [Int.reduceToNat, rg_kIs, rg_kLs, rg_kRs, rg_kVs, rg_nns, rg_bs, cond_true, cond_false]
    rw [rg_sI_79 (by omega) (by omega)]
    try simp only [Int.reduceToNat, rg_kIs, rg_kLs, rg_kRs, rg_kVs, rg_nns, rg_bs, cond_true, cond_false]
    rw [rg_M_copy_141 d hT hJ k (i + 1) _ (by omega), rg_up_u, rg_up_s, rg_up_n (by decide), rg_tN, rg_tN]
    refine congrArg (fun f : Nat → Int => (some (some (.inl 1), hp X (rg_up D 79 f)) : Option rf_R)) (funext fun q => ?_)
    show (if 40 * T + J + (i + 1) ≤ q ∧ q < 40 * T + J + N then D 86 (q - (40 * T + J)) else (if q = 40 * T + J + i then D 86 i else D 79 q)) = (if 40 * T + J + i ≤ q ∧ q < 40 * T + J + N then D 86 (q - (40 * T + J)) else D 79 q)
    by_cases h1 : 40 * T + J + (i + 1) ≤ q ∧ q < 40 * T + J + N
    · rw [if_pos h1, if_pos (by omega)]
    · rw [if_neg h1]
      by_cases h2 : q = 40 * T + J + i
      · rw [if_pos h2, if_pos (by omega), h2, show 40 * T + J + i - (40 * T + J) = i by omega]
      · rw [if_neg h2, if_neg (by omega)]
theorem st_mean (hI : Inv D) (d : Nat) (r : Int) : Ag X D (d + 8) 64 125 [.inl r] := by
  unfold Ag
  have h6 := hI.2.2.1.2.1
  by_cases hr : 0 ≤ r ∧ r < 6
  · obtain ⟨R, rfl⟩ := Int.eq_ofNat_of_zero_le hr.1
    have hR : R < 6 := by omega
    have row := rg_rowN (X := X) (D := D) hR
    obtain ⟨q1, q2, q3, q4⟩ := hI.1 R hR
    have xw : rf_w (D (44 + 2 * R) 1 - 1) = D (44 + 2 * R) 1 - 1 := rg_w (by omega) (by omega)
    by_cases z : D (44 + 2 * R) 1 < 0
    · refine ⟨-3, wfd 1 D, mfd 1 (wfd 1 D), ?_, ?_, hI.fd (by decide) (by decide)⟩
      · rw [rf_e_W_mean]
        try simp only [rg_gR_0_0, Int.reduceToNat, rg_kIs, rg_kLs, rg_kRs, rg_kVs, rg_nns, rg_bs, cond_true, cond_false]
        rw [rg_W_pick_y (n := 6) (d + 6) (rg_aL_1 X D) hr row.2]
        try simp only [rg_hp1, rg_o_0, rg_row_o row.1, rg_nzs, Int.reduceToNat, rg_kIs, rg_kLs, rg_kRs, rg_kVs, rg_nns, rg_bs, cond_true, cond_false]
        rw [rg_R_isThere row.1]
        try simp only [Int.reduceToNat, rg_kIs, rg_kLs, rg_kRs, rg_kVs, rg_nns, rg_bs, cond_true, cond_false]
        rw [if_pos z, if_pos (by decide)]
        try simp only [rg_hp1, rg_o_0, Int.reduceToNat, rg_kIs, rg_kLs, rg_kRs, rg_kVs, rg_nns, rg_bs, cond_true, cond_false]
        rw [rg_W_found (d + 4) (by decide) (by decide) h6]
        try simp only [Int.reduceToNat, rg_kIs, rg_kLs, rg_kRs, rg_kVs, rg_nns, rg_bs, cond_true, cond_false]
      · rw [rf_e_M_mean, rg_M_isRow]
        try simp only [if_pos hr, Int.reduceToNat, rg_kIs, rg_kLs, rg_kRs, rg_kVs, rg_nns, rg_bs, cond_true, cond_false]
        rw [if_neg (by decide)]
        try simp only [rg_gR_77_0, Int.reduceToNat, rg_kIs, rg_kLs, rg_kRs, rg_kVs, rg_nns, rg_bs, cond_true, cond_false]
        rw [rg_aI_78 (by omega) (by omega)]
        try simp only [Int.reduceToNat, rg_kIs, rg_kLs, rg_kRs, rg_kVs, rg_nns, rg_bs, cond_true, cond_false]
        rw [rg_tN, wfd_n (by decide) (by decide), q1, if_pos z]
        try simp only [rg_hp1, rg_o_77, Int.reduceToNat, rg_kIs, rg_kLs, rg_kRs, rg_kVs, rg_nns, rg_bs, cond_true, cond_false]
        rw [rg_M_finds (d + 6) (by decide) (by decide)]
        try simp only [Int.reduceToNat, rg_kIs, rg_kLs, rg_kRs, rg_kVs, rg_nns, rg_bs, cond_true, cond_false]
    · by_cases y0 : D (44 + 2 * R) 1 = 0
      · refine ⟨-3, wfd 4 D, mfd 4 (wfd 4 D), ?_, ?_, hI.fd (by decide) (by decide)⟩
        · rw [rf_e_W_mean]
          try simp only [rg_gR_0_0, Int.reduceToNat, rg_kIs, rg_kLs, rg_kRs, rg_kVs, rg_nns, rg_bs, cond_true, cond_false]
          rw [rg_W_pick_y (n := 6) (d + 6) (rg_aL_1 X D) hr row.2]
          try simp only [rg_hp1, rg_o_0, rg_row_o row.1, rg_nzs, Int.reduceToNat, rg_kIs, rg_kLs, rg_kRs, rg_kVs, rg_nns, rg_bs, cond_true, cond_false]
          rw [rg_R_isThere row.1]
          try simp only [Int.reduceToNat, rg_kIs, rg_kLs, rg_kRs, rg_kVs, rg_nns, rg_bs, cond_true, cond_false]
          rw [if_neg z, if_neg (by decide)]
          try simp only [rg_row_gI row.1, Int.reduceToNat, rg_kIs, rg_kLs, rg_kRs, rg_kVs, rg_nns, rg_bs, cond_true, cond_false]
          rw [if_pos y0]
          try simp only [rg_hp1, rg_o_0, Int.reduceToNat, rg_kIs, rg_kLs, rg_kRs, rg_kVs, rg_nns, rg_bs, cond_true, cond_false]
          rw [rg_W_found (d + 4) (by decide) (by decide) h6]
          try simp only [Int.reduceToNat, rg_kIs, rg_kLs, rg_kRs, rg_kVs, rg_nns, rg_bs, cond_true, cond_false]
        · rw [rf_e_M_mean, rg_M_isRow]
          try simp only [if_pos hr, Int.reduceToNat, rg_kIs, rg_kLs, rg_kRs, rg_kVs, rg_nns, rg_bs, cond_true, cond_false]
          rw [if_neg (by decide)]
          try simp only [rg_gR_77_0, Int.reduceToNat, rg_kIs, rg_kLs, rg_kRs, rg_kVs, rg_nns, rg_bs, cond_true, cond_false]
          rw [rg_aI_78 (by omega) (by omega)]
          try simp only [Int.reduceToNat, rg_kIs, rg_kLs, rg_kRs, rg_kVs, rg_nns, rg_bs, cond_true, cond_false]
          rw [rg_tN, wfd_n (by decide) (by decide), q1, if_neg z]
          try simp only [rg_gR_77_0, Int.reduceToNat, rg_kIs, rg_kLs, rg_kRs, rg_kVs, rg_nns, rg_bs, cond_true, cond_false]
          rw [if_pos y0]
          try simp only [rg_hp1, rg_o_77, Int.reduceToNat, rg_kIs, rg_kLs, rg_kRs, rg_kVs, rg_nns, rg_bs, cond_true, cond_false]
          rw [rg_M_finds (d + 6) (by decide) (by decide)]
          try simp only [Int.reduceToNat, rg_kIs, rg_kLs, rg_kRs, rg_kVs, rg_nns, rg_bs, cond_true, cond_false]
      · obtain ⟨Z, hZ⟩ := Int.eq_ofNat_of_zero_le (show 0 ≤ D (44 + 2 * R) 1 by omega)
        refine ⟨1, wtl (rf_w (rf_wl (Int.tdiv (rg_sum (D (44 + 2 * R + 1)) Z) (Z : Int)))) D, mtl (rf_w (rf_wl (Int.tdiv (rg_sum (D (44 + 2 * R + 1)) Z) (Z : Int)))) (wtl (rf_w (rf_wl (Int.tdiv (rg_sum (D (44 + 2 * R + 1)) Z) (Z : Int)))) D), ?_, ?_, hI.tl _⟩
        · rw [rf_e_W_mean]
          try simp only [rg_gR_0_0, Int.reduceToNat, rg_kIs, rg_kLs, rg_kRs, rg_kVs, rg_nns, rg_bs, cond_true, cond_false]
          rw [rg_W_pick_y (n := 6) (d + 6) (rg_aL_1 X D) hr row.2]
          try simp only [rg_hp1, rg_o_0, rg_row_o row.1, rg_nzs, Int.reduceToNat, rg_kIs, rg_kLs, rg_kRs, rg_kVs, rg_nns, rg_bs, cond_true, cond_false]
          rw [rg_R_isThere row.1]
          try simp only [Int.reduceToNat, rg_kIs, rg_kLs, rg_kRs, rg_kVs, rg_nns, rg_bs, cond_true, cond_false]
          rw [if_neg z, if_neg (by decide)]
          try simp only [rg_row_gI row.1, Int.reduceToNat, rg_kIs, rg_kLs, rg_kRs, rg_kVs, rg_nns, rg_bs, cond_true, cond_false]
          rw [if_neg y0]
          try simp only [rg_hp1, rg_row_o row.1, Int.reduceToNat, rg_kIs, rg_kLs, rg_kRs, rg_kVs, rg_nns, rg_bs, cond_true, cond_false]
          rw [rg_R_sum row.1 (d + 5) (by decide) (by omega) q3]
          try simp only [rg_row_gI row.1, rg_hp1, rg_o_0, Int.reduceToNat, rg_kIs, rg_kLs, rg_kRs, rg_kVs, rg_nns, rg_bs, cond_true, cond_false]
          rw [if_neg y0, rg_W_tell, hZ, rg_tN]
          try simp only [Int.reduceToNat, rg_kIs, rg_kLs, rg_kRs, rg_kVs, rg_nns, rg_bs, cond_true, cond_false]
        · rw [rf_e_M_mean, rg_M_isRow]
          try simp only [if_pos hr, Int.reduceToNat, rg_kIs, rg_kLs, rg_kRs, rg_kVs, rg_nns, rg_bs, cond_true, cond_false]
          rw [if_neg (by decide)]
          try simp only [rg_gR_77_0, Int.reduceToNat, rg_kIs, rg_kLs, rg_kRs, rg_kVs, rg_nns, rg_bs, cond_true, cond_false]
          rw [rg_aI_78 (by omega) (by omega)]
          try simp only [Int.reduceToNat, rg_kIs, rg_kLs, rg_kRs, rg_kVs, rg_nns, rg_bs, cond_true, cond_false]
          have s1 : rg_sum (fun j => D 79 (40 * R + j)) Z = rg_sum (D (44 + 2 * R + 1)) Z := rg_sum_of fun j hj => (q4 j (by omega)).1
          generalize hv : rf_w (rf_wl (Int.tdiv (rg_sum (D (44 + 2 * R + 1)) Z) (Z : Int))) = v
          have l := rg_M_mean_44 (X := X) (D := wtl v D) (d + 7) hR (z := Z) (by omega) (by rw [wtl_n (by decide), q1, hZ]) Z 0 (by omega)
          rw [rg_tN, wtl_n (by decide), q1, if_neg z]
          try simp only [rg_gR_77_0, Int.reduceToNat, rg_kIs, rg_kLs, rg_kRs, rg_kVs, rg_nns, rg_bs, cond_true, cond_false]
          rw [if_neg y0]
          rw [show rf_j_M_mean_44 (d + 7) 77 (R : Int) 0 0 (hp X (wtl v D)) = rf_j_M_mean_44 (d + 7) 77 (R : Int) (rg_sum (fun j => wtl v D 79 (40 * R + j)) 0) ((0 : Nat) : Int) (hp X (wtl v D)) from rfl, l, rf_e_M_mean_44]
          try simp only [rg_gR_77_0, Int.reduceToNat, rg_kIs, rg_kLs, rg_kRs, rg_kVs, rg_nns, rg_bs, cond_true, cond_false]
          rw [rg_aI_78 (by omega) (by omega)]
          try simp only [Int.reduceToNat, rg_kIs, rg_kLs, rg_kRs, rg_kVs, rg_nns, rg_bs, cond_true, cond_false]
          rw [rg_tN, wtl_n (by decide), q1, hZ, if_neg (by omega), if_neg (by omega)]
          try simp only [rg_hp1, rg_o_77, Int.reduceToNat, rg_kIs, rg_kLs, rg_kRs, rg_kVs, rg_nns, rg_bs, cond_true, cond_false]
          rw [rg_M_tells, wtl_n (show (79 : Nat) ≠ 0 by decide), s1, hv]
          try simp only [Int.reduceToNat, rg_kIs, rg_kLs, rg_kRs, rg_kVs, rg_nns, rg_bs, cond_true, cond_false]
  · refine ⟨-1, D, D, ?_, ?_, hI⟩
    · rw [rf_e_W_mean]
      try simp only [rg_gR_0_0, Int.reduceToNat, rg_kIs, rg_kLs, rg_kRs, rg_kVs, rg_nns, rg_bs, cond_true, cond_false]
      rw [rg_W_pick_n (n := 6) (d + 6) (rg_aL_1 X D) hr]
      try simp only [rg_hp1, rg_o_0, rg_nzn, Int.reduceToNat, rg_kIs, rg_kLs, rg_kRs, rg_kVs, rg_nns, rg_bs, cond_true, cond_false]
    · rw [rf_e_M_mean, rg_M_isRow]
      try simp only [if_neg hr, Int.reduceToNat, rg_kIs, rg_kLs, rg_kRs, rg_kVs, rg_nns, rg_bs, cond_true, cond_false]
      rw [if_pos (by decide)]
theorem st_fault (hX : XL X) (hI : Inv D) (d : Nat) (r : Int) : Ag X D (d + 8) 67 129 [.inl r] := by
  unfold Ag
  have h6 := hI.2.2.1.2.1
  by_cases hr : 0 ≤ r ∧ r < 4
  · obtain ⟨R, rfl⟩ := Int.eq_ofNat_of_zero_le hr.1
    have hR : R < 4 := by omega
    have row := rg_textN (X := X) (D := D) hR
    obtain ⟨q1, q2, q3, q4⟩ := hI.2.1 R hR
    have xw : rf_w (D (56 + 2 * R) 1 - 1) = D (56 + 2 * R) 1 - 1 := rg_w (by omega) (by omega)
    by_cases z : D (56 + 2 * R) 1 < 0
    · refine ⟨-3, wfd 1 D, mfd 1 (wfd 1 D), ?_, ?_, hI.fd (by decide) (by decide)⟩
      · rw [rf_e_W_fault]
        try simp only [rg_gR_0_1, Int.reduceToNat, rg_kIs, rg_kLs, rg_kRs, rg_kVs, rg_nns, rg_bs, cond_true, cond_false]
        rw [rg_W_pick_y (n := 4) (d + 6) (rg_aL_2 X D) hr row.2]
        try simp only [rg_hp1, rg_o_0, rg_row_o row.1, rg_nzs, Int.reduceToNat, rg_kIs, rg_kLs, rg_kRs, rg_kVs, rg_nns, rg_bs, cond_true, cond_false]
        rw [rg_R_isThere row.1]
        try simp only [Int.reduceToNat, rg_kIs, rg_kLs, rg_kRs, rg_kVs, rg_nns, rg_bs, cond_true, cond_false]
        rw [if_pos z, if_pos (by decide)]
        try simp only [rg_hp1, rg_o_0, Int.reduceToNat, rg_kIs, rg_kLs, rg_kRs, rg_kVs, rg_nns, rg_bs, cond_true, cond_false]
        rw [rg_W_found (d + 4) (by decide) (by decide) h6]
        try simp only [Int.reduceToNat, rg_kIs, rg_kLs, rg_kRs, rg_kVs, rg_nns, rg_bs, cond_true, cond_false]
      · rw [rf_e_M_fault, rg_M_isText]
        try simp only [if_pos hr, Int.reduceToNat, rg_kIs, rg_kLs, rg_kRs, rg_kVs, rg_nns, rg_bs, cond_true, cond_false]
        rw [if_neg (by decide)]
        try simp only [rg_gR_77_2, Int.reduceToNat, rg_kIs, rg_kLs, rg_kRs, rg_kVs, rg_nns, rg_bs, cond_true, cond_false]
        rw [rg_aI_80 (by omega) (by omega)]
        try simp only [Int.reduceToNat, rg_kIs, rg_kLs, rg_kRs, rg_kVs, rg_nns, rg_bs, cond_true, cond_false]
        rw [rg_tN, wfd_n (by decide) (by decide), q1, if_pos z]
        try simp only [rg_hp1, rg_o_77, Int.reduceToNat, rg_kIs, rg_kLs, rg_kRs, rg_kVs, rg_nns, rg_bs, cond_true, cond_false]
        rw [rg_M_finds (d + 6) (by decide) (by decide)]
        try simp only [Int.reduceToNat, rg_kIs, rg_kLs, rg_kRs, rg_kVs, rg_nns, rg_bs, cond_true, cond_false]
    · obtain ⟨Z, hZ⟩ := Int.eq_ofNat_of_zero_le (show 0 ≤ D (56 + 2 * R) 1 by omega)
      obtain ⟨E, e1, e2, -⟩ := rg_E_faultOf hX rg_con_13 (Or.inl rfl) row.1 (by omega) (n := Z) (by omega) (x := D (56 + 2 * R + 1)) (fun k hk => (q4 k (by omega)).2 trivial) (d + 1) (D := D) (ps_g0 (D 87)) (ps_g0_PI _) rfl rfl (fun _ _ => rfl) hZ
      have En : ∀ a, (a < 12 ∨ 27 < a) → E a = D a := fun a h => e2 a (by omega) (by omega)
      obtain ⟨f', m1, m2⟩ := rg_M_faultOf (X := X) (D := E) (t := R) (n := Z) (x := D (56 + 2 * R + 1)) (fun k hk => by rw [En 81 (by decide)]; exact (q4 k (by omega)).1) (by rw [En 80 (by decide), q1, hZ]) (by omega) (by omega) (fun k hk => (q4 k (by omega)).2 trivial) (d + 2)
      rw [En 87 (by decide)] at m1
      refine ⟨if (ps_all (D (56 + 2 * R + 1)) Z (ps_g0 (D 87))).1 = true then -9 else ((ps_all (D (56 + 2 * R + 1)) Z (ps_g0 (D 87))).2.1 : Int), E, _, ?_, ?_, hI.scr (D' := rg_up (rg_up E 77 f') 87 (ps_all (D (56 + 2 * R + 1)) Z (ps_g0 (D 87))).2.2) (fun a _ _ _ _ h h2 h3 => ?_) ?_ ?_ (fun k z1 z2 => ?_)⟩
      · rw [rf_e_W_fault]
        try simp only [rg_gR_0_1, Int.reduceToNat, rg_kIs, rg_kLs, rg_kRs, rg_kVs, rg_nns, rg_bs, cond_true, cond_false]
        rw [rg_W_pick_y (n := 4) (d + 6) (rg_aL_2 X D) hr row.2]
        try simp only [rg_hp1, rg_o_0, rg_row_o row.1, rg_nzs, Int.reduceToNat, rg_kIs, rg_kLs, rg_kRs, rg_kVs, rg_nns, rg_bs, cond_true, cond_false]
        rw [rg_R_isThere row.1]
        try simp only [Int.reduceToNat, rg_kIs, rg_kLs, rg_kRs, rg_kVs, rg_nns, rg_bs, cond_true, cond_false]
        rw [if_neg z, if_neg (by decide)]
        try simp only [rg_gR_0_7, rg_gR_0_8, rg_hp1, rg_o_12, Int.reduceToNat, rg_kIs, rg_kLs, rg_kRs, rg_kVs, rg_nns, rg_bs, cond_true, cond_false]
        rw [e1]
        try simp only [Int.reduceToNat, rg_kIs, rg_kLs, rg_kRs, rg_kVs, rg_nns, rg_bs, cond_true, cond_false]
      · rw [rf_e_M_fault, rg_M_isText]
        try simp only [if_pos hr, Int.reduceToNat, rg_kIs, rg_kLs, rg_kRs, rg_kVs, rg_nns, rg_bs, cond_true, cond_false]
        rw [if_neg (by decide)]
        try simp only [rg_gR_77_2, Int.reduceToNat, rg_kIs, rg_kLs, rg_kRs, rg_kVs, rg_nns, rg_bs, cond_true, cond_false]
        rw [rg_aI_80 (by omega) (by omega)]
        try simp only [Int.reduceToNat, rg_kIs, rg_kLs, rg_kRs, rg_kVs, rg_nns, rg_bs, cond_true, cond_false]
        rw [rg_tN, En 80 (by decide), q1, if_neg z]
        try simp only [rg_hp1, rg_o_77, Int.reduceToNat, rg_kIs, rg_kLs, rg_kRs, rg_kVs, rg_nns, rg_bs, cond_true, cond_false]
        rw [m1]
        try simp only [Int.reduceToNat, rg_kIs, rg_kLs, rg_kRs, rg_kVs, rg_nns, rg_bs, cond_true, cond_false]
      · rw [rg_up_n (by omega), rg_up_n (by omega), En a h]
      · rw [rg_up_n (by decide), rg_up_n (by decide), En 8 (by decide)]
      · rw [rg_up_n (by decide), rg_up_n (by decide), En 10 (by decide)]
      · rw [rg_up_n (by decide), rg_up_s, m2 k (by omega) (by omega) (by omega), En 77 (by decide)]
  · refine ⟨-1, D, D, ?_, ?_, hI⟩
    · rw [rf_e_W_fault]
      try simp only [rg_gR_0_1, Int.reduceToNat, rg_kIs, rg_kLs, rg_kRs, rg_kVs, rg_nns, rg_bs, cond_true, cond_false]
      rw [rg_W_pick_n (n := 4) (d + 6) (rg_aL_2 X D) hr]
      try simp only [rg_hp1, rg_o_0, rg_nzn, Int.reduceToNat, rg_kIs, rg_kLs, rg_kRs, rg_kVs, rg_nns, rg_bs, cond_true, cond_false]
    · rw [rf_e_M_fault, rg_M_isText]
      try simp only [if_neg hr, Int.reduceToNat, rg_kIs, rg_kLs, rg_kRs, rg_kVs, rg_nns, rg_bs, cond_true, cond_false]
      rw [if_pos (by decide)]

def AgL (X : rf_X) (D : rf_D) (d u v : Nat) (as : List rf_V) : Prop := ∃ y D1 D2, rf_call d u (.inr (.inr (some 0)) :: as) (hp X D) = some (some (.inr (.inl y)), hp X D1) ∧ rf_call d v (.inr (.inr (some 77)) :: as) (hp X D1) = some (some (.inr (.inl y)), hp X D2) ∧ Inv D2
theorem st_asked (hI : Inv D) (d : Nat) : Ag X D (d + 8) 105 189 [] := by
  refine ⟨D 0 13, D, D, ?_, ?_, hI⟩
  · rw [rf_e_W_asked]
    try simp only [rg_gI_0, Int.reduceToNat, rg_kIs, rg_kLs, rg_kRs, rg_kVs, rg_nns, rg_bs, cond_true, cond_false]
  · rw [rf_e_M_asked]
    try simp only [rg_gI_77, Int.reduceToNat, rg_kIs, rg_kLs, rg_kRs, rg_kVs, rg_nns, rg_bs, cond_true, cond_false]
    rw [hI.2.2.1.2.2.2.1]
theorem st_upper (hI : Inv D) (d : Nat) : AgL X D (d + 8) 106 190 [] := by
  refine ⟨D 0 14, D, D, ?_, ?_, hI⟩
  · rw [rf_e_W_upper]
    try simp only [rg_gI_0, Int.reduceToNat, rg_kIs, rg_kLs, rg_kRs, rg_kVs, rg_nns, rg_bs, cond_true, cond_false]
  · rw [rf_e_M_upper]
    try simp only [rg_gI_77, Int.reduceToNat, rg_kIs, rg_kLs, rg_kRs, rg_kVs, rg_nns, rg_bs, cond_true, cond_false]
    rw [hI.2.2.1.2.2.2.2.1]
theorem st_lower (hI : Inv D) (d : Nat) : AgL X D (d + 8) 107 191 [] := by
  refine ⟨D 0 15, D, D, ?_, ?_, hI⟩
  · rw [rf_e_W_lower]
    try simp only [rg_gI_0, Int.reduceToNat, rg_kIs, rg_kLs, rg_kRs, rg_kVs, rg_nns, rg_bs, cond_true, cond_false]
  · rw [rf_e_M_lower]
    try simp only [rg_gI_77, Int.reduceToNat, rg_kIs, rg_kLs, rg_kRs, rg_kVs, rg_nns, rg_bs, cond_true, cond_false]
    rw [hI.2.2.1.2.2.2.2.2]
theorem st_finding (hI : Inv D) (d : Nat) : Ag X D (d + 8) 111 194 [] := by
  refine ⟨D 0 16, D, D, ?_, ?_, hI⟩
  · rw [rf_e_W_finding]
    try simp only [rg_gI_0, Int.reduceToNat, rg_kIs, rg_kLs, rg_kRs, rg_kVs, rg_nns, rg_bs, cond_true, cond_false]
  · rw [rf_e_M_finding]
    try simp only [rg_gI_77, Int.reduceToNat, rg_kIs, rg_kLs, rg_kRs, rg_kVs, rg_nns, rg_bs, cond_true, cond_false]
    rw [hI.2.2.1.2.2.1]
theorem st_findings (hI : Inv D) (d : Nat) (a : Int) : Ag X D (d + 8) 112 195 [.inl a] := by
  by_cases h : 1 ≤ a ∧ a ≤ 5
  · refine ⟨D 7 a.toNat, D, D, ?_, ?_, hI⟩
    · rw [rf_e_W_findings, if_neg (by omega), if_neg (by omega)]
      try simp only [rg_gR_0_4, rg_hp1, rg_row_o rg_row_6, Int.reduceToNat, rg_kIs, rg_kLs, rg_kRs, rg_kVs, rg_nns, rg_bs, cond_true, cond_false]
      rw [rg_R_cellI rg_row_6 (d + 6) (by omega) (by rw [hI.2.2.1.2.1]; omega) (by rw [hI.2.2.1.2.1]; decide)]
      try simp only [Int.reduceToNat, rg_kIs, rg_kLs, rg_kRs, rg_kVs, rg_nns, rg_bs, cond_true, cond_false]
    · rw [rf_e_M_findings, rg_M_in]
      try simp only [if_pos h, Int.reduceToNat, rg_kIs, rg_kLs, rg_kRs, rg_kVs, rg_nns, rg_bs, cond_true, cond_false]
      rw [if_neg (by decide)]
      try simp only [rg_gR_77_7, Int.reduceToNat, rg_kIs, rg_kLs, rg_kRs, rg_kVs, rg_nns, rg_bs, cond_true, cond_false]
      rw [rg_aI_85 (by omega) (by omega)]
      try simp only [Int.reduceToNat, rg_kIs, rg_kLs, rg_kRs, rg_kVs, rg_nns, rg_bs, cond_true, cond_false]
      rw [hI.2.2.1.1 a.toNat (by omega)]
  · refine ⟨-1, D, D, ?_, ?_, hI⟩
    · rw [rf_e_W_findings]
      by_cases b : a < 1
      · rw [if_pos b]
      · rw [if_neg b, if_pos (by omega)]
    · rw [rf_e_M_findings, rg_M_in]
      try simp only [if_neg h, Int.reduceToNat, rg_kIs, rg_kLs, rg_kRs, rg_kVs, rg_nns, rg_bs, cond_true, cond_false]
      rw [if_pos (by decide)]
end RGS4
