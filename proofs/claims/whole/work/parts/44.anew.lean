/-! Things taken back: the class does its things anew, the reference takes its log. -/
theorem IKp.hd {D D' : rf_D} {k : Nat} (h : IKp D k) (hk : k < 3) (e : ∀ a, (a = 28 ∨ a = 31 ∨ (64 ≤ a ∧ a ≤ 69) ∨ a = 83 ∨ a = 84) → D' a = D a) (hh : ∀ j, j < 27 → D' 82 j = D 82 j) : IKp D' k := by
  unfold IKp
  rw [e 28 (by omega), e 31 (by omega), e 83 (by omega), e 84 (by omega), e (64 + 2 * k) (by omega), e (64 + 2 * k + 1) (by omega)]
  rcases h with z | ⟨z, q, k1, k2, k3, k4⟩
  · exact Or.inl z
  · exact Or.inr ⟨z, q, k1, k2, fun j hj => by rw [hh j hj]; exact k3 j hj, k4⟩
theorem IYes.re {D D' : rf_D} (h : IYes D) {n : Nat} (hDE : DE (D' 5) n) (e : ∀ a, (28 ≤ a ∧ a ≤ 42) → D' a = D a) (e4 : D' 4 1 = (n : Int)) (hh : ∀ j, j < 27 → D' 82 j = D 82 j) (hL : LG (D' 82) (D' 5) (D 28 8) (D 28 9) (D 31 1) n) (hT : TR (D' 43) (sp_ch (D' 82) (D' 5) (D 28 8) (D 28 9) (D 31 1) n) 0) (hk : ∀ k, k < 3 → IKp D' k) : IYes D' := by
  obtain ⟨hd, hC, ha, hb, -, -, -⟩ := h
  have z1 : 1 ≤ D 82 2 ∧ D 82 2 ≤ 6 := hd.2.2.1
  unfold IYes
  rw [e 28 (by omega), e 31 (by omega)]
  exact ⟨sp_hd_of hd hh, (hC.ofs z1.2 hh).of fun a z2 z3 => e a (by omega), ha, hb, hT.ofs fun j j1 j2 => hL.2.1 j (by omega), ⟨n, e4, hDE, hL⟩, hk⟩
theorem tr_begins {f A : Nat → Int} {a b W : Int} (h : (f 2 = a ∧ f 3 = b ∧ f 4 = 0) ∧ (f 9 = 0 ∧ f 10 = 1 ∧ f 11 = 0) ∧ (f 5 = 0 ∧ f 8 = 0 ∧ f 7 = 0 ∧ f 6 = W)) : TR f (sp_bg A a b W) 0 := by
  obtain ⟨⟨h1, h2, h3⟩, ⟨h4, h5, h6⟩, h7, h8, h9, h10⟩ := h
  exact ⟨⟨h1, h2, h3⟩, ⟨h4, h5, h6⟩, h7, h8, h9, h10⟩
section RGS7
variable {X : rf_X} {D : rf_D}
theorem rg_W_anew_9 (d : Nat) {A e : Nat → Int} {a b W : Int} {m : Nat} (hd : sp_hd A) (ha : 0 ≤ a ∧ a ≤ 9) (hb : 0 ≤ b ∧ b ≤ 9) (hW : 0 ≤ W ∧ W ≤ 6) (hDE : DE e m) : ∀ (k i : Nat) (D : rf_D), i + k = m → CR D 28 A W → D 4 1 = (m : Int) → D 5 = e → TR (D 43) (sp_ch A e a b W i) 0 → ∃ f', rf_j_W_doDeedsAnew_9 (d + 6) 0 (i : Int) (hp X D) = some (none, hp X (rg_up D 43 f')) ∧ TR f' (sp_ch A e a b W m) 0
  | 0, i, D, hk, hC, h4, h5, hT => by
    rw [rf_e_W_doDeedsAnew_9]
    try simp only [rg_gR_0_3, rg_row_gI rg_row_4, Int.reduceToNat, rg_kIs, rg_kLs, rg_kRs, rg_kVs, rg_nns, rg_bs, cond_true, cond_false]
    rw [h4, if_neg (by omega)]
    refine ⟨D 43, ?_, ?_⟩
    · rw [rg_up_i]
    · rw [show m = i by omega]
      exact hT
  | k + 1, i, D, hk, hC, h4, h5, hT => by
    have hi : i < m := by omega
    have th := hDE.2 i hi
    have m60 := hDE.1
    obtain ⟨st, s36, s34⟩ := sp_ch_st (A := A) (e := e) ha hb hW i (by omega)
    have z1 : 1 ≤ A 2 ∧ A 2 ≤ 6 := hd.2.2.1
    have hdi : sp_hd (sp_ch A e a b W i) := sp_hd_of hd fun j hj => sp_ch_hd i j hj
    have hCi : CR D 28 (sp_ch A e a b W i) W := hC.ofs z1.2 fun j hj => sp_ch_hd i j hj
    have rl := sp_rail_02 hdi st
    have w1 := rg_T_rail (X := X) (D := D) rg_tr_43 hCi hdi st (by omega) (d + 3) hT.2.2.2.1
    obtain ⟨f1, w2, w3⟩ := rg_T_does (X := X) (D := D) rg_tr_43 hCi hdi hT st (by omega) ⟨Int.le_refl 0, by decide⟩ s36 (d + 1) th.1 th.2 (fun _ => rl)
    obtain ⟨f', r1, r2⟩ := rg_W_anew_9 d hd ha hb hW hDE k (i + 1) (rg_up D 43 f1) (by omega) (hC.up (by omega)) (by rw [rg_up_n (by decide)]; exact h4) (by rw [rg_up_n (by decide)]; exact h5) (by rw [rg_up_s]; exact w3)
    refine ⟨f', ?_, r2⟩
    rw [rg_up_u] at r1
    rw [rf_e_W_doDeedsAnew_9]
    try simp only [rg_gR_0_3, rg_row_gI rg_row_4, Int.reduceToNat, rg_kIs, rg_kLs, rg_kRs, rg_kVs, rg_nns, rg_bs, cond_true, cond_false]
    rw [h4, if_pos (by omega)]
    try simp only [rg_gR_0_3, rg_gR_0_10, rg_hp1, rg_row_o rg_row_4, Int.reduceToNat, rg_kIs, rg_kLs, rg_kRs, rg_kVs, rg_nns, rg_bs, cond_true, cond_false]
    rw [rg_R_cellI rg_row_4 (d + 5) (by omega) (by omega) (by omega)]
    try simp only [rg_gR_0_10, rg_hp1, rg_tr_43.1, Int.reduceToNat, rg_kIs, rg_kLs, rg_kRs, rg_kVs, rg_nns, rg_bs, cond_true, cond_false]
    rw [w1]
    try simp only [rg_hp1, rg_tr_43.1, Int.reduceToNat, rg_kIs, rg_kLs, rg_kRs, rg_kVs, rg_nns, rg_bs, cond_true, cond_false]
    rw [show D (4 + 1) ((i : Int)).toNat = e i by rw [rg_tN, ← h5], w2]
    try simp only [Int.reduceToNat, rg_kIs, rg_kLs, rg_kRs, rg_kVs, rg_nns, rg_bs, cond_true, cond_false]
    rw [rg_w (by omega) (by omega), show ((i : Int) + 1) = ((i + 1 : Nat) : Int) by omega]
    exact r1
theorem rg_W_anew (d : Nat) {A : Nat → Int} {m : Nat} (hd : sp_hd A) (ha : 0 ≤ D 28 8 ∧ D 28 8 ≤ 9) (hb : 0 ≤ D 28 9 ∧ D 28 9 ≤ 9) (hC : CR D 28 A (D 31 1)) (h4 : D 4 1 = (m : Int)) (hDE : DE (D 5) m) : ∃ f', rf_call (d + 7) 69 [.inr (.inr (some 0))] (hp X D) = some (none, hp X (rg_up D 43 f')) ∧ TR f' (sp_ch A (D 5) (D 28 8) (D 28 9) (D 31 1) m) 0 := by
  obtain ⟨f0, b1, b2⟩ := rg_T_begins (X := X) (D := D) rg_tr_43 (by decide) (d + 5)
  obtain ⟨f', r1, r2⟩ := rg_W_anew_9 (X := X) d hd ha hb hC.2.2.2.1 hDE m 0 (rg_up D 43 f0) (by omega) (hC.up (by omega)) (by rw [rg_up_n (by decide)]; exact h4) (by rw [rg_up_n (by decide)]) (by rw [rg_up_s]; exact tr_begins b2)
  refine ⟨f', ?_, r2⟩
  rw [rg_up_u] at r1
  rw [rf_e_W_doDeedsAnew]
  try simp only [rg_gR_0_10, rg_hp1, rg_tr_43.1, Int.reduceToNat, rg_kIs, rg_kLs, rg_kRs, rg_kVs, rg_nns, rg_bs, cond_true, cond_false]
  rw [b1]
  try simp only [Int.reduceToNat, rg_kIs, rg_kLs, rg_kRs, rg_kVs, rg_nns, rg_bs, cond_true, cond_false]
  exact r1
/-- with no thing done the class begins, and no more -/
theorem rg_W_anew0 (d : Nat) (h4 : D 4 1 = 0) : ∃ f', rf_call (d + 7) 69 [.inr (.inr (some 0))] (hp X D) = some (none, hp X (rg_up D 43 f')) ∧ f' 6 = D 31 1 ∧ f' 10 = 1 := by
  obtain ⟨f0, b1, b2⟩ := rg_T_begins (X := X) (D := D) rg_tr_43 (by decide) (d + 5)
  refine ⟨f0, ?_, b2.2.2.2.2.2, b2.2.1.2.1⟩
  rw [rf_e_W_doDeedsAnew]
  try simp only [rg_gR_0_10, rg_hp1, rg_tr_43.1, Int.reduceToNat, rg_kIs, rg_kLs, rg_kRs, rg_kVs, rg_nns, rg_bs, cond_true, cond_false]
  rw [b1]
  try simp only [Int.reduceToNat, rg_kIs, rg_kLs, rg_kRs, rg_kVs, rg_nns, rg_bs, cond_true, cond_false]
  rw [rf_e_W_doDeedsAnew_9]
  try simp only [rg_gR_0_3, rg_row_gI rg_row_4, Int.reduceToNat, rg_kIs, rg_kLs, rg_kRs, rg_kVs, rg_nns, rg_bs, cond_true, cond_false]
  rw [rg_up_n (by decide), h4, if_neg (by decide)]
def ud_B (A : Nat → Int) (n i : Nat) : Nat → Int := fun j => if j = 37 then (n : Int) else if 27 + i ≤ j ∧ j < 37 then A (38 + 10 * n + (j - 27)) else A j
theorem rg_M_undo_35 (d : Nat) {n : Nat} (hn : n ≤ 59) (l : Int) : ∀ (k i : Nat) (D : rf_D), i + k = 10 → rf_j_M_undo_35 d 77 (n : Int) l (i : Int) (hp X D) = some (some (.inl l), hp X (rg_up D 82 (ud_B (D 82) n i)))
  | 0, i, D, hk => by
    rw [rf_e_M_undo_35, if_neg (by omega)]
    try simp only [rg_gR_77_4, Int.reduceToNat, rg_kIs, rg_kLs, rg_kRs, rg_kVs, rg_nns, rg_bs, cond_true, cond_false]
    rw [rg_sI_82 (by decide) (by decide)]
    try simp only [Int.reduceToNat, rg_kIs, rg_kLs, rg_kRs, rg_kVs, rg_nns, rg_bs, cond_true, cond_false]
    refine congrArg (fun f : Nat → Int => (some (some (.inl l), hp X (rg_up D 82 f)) : Option rf_R)) (funext fun j => ?_)
    show (if j = 37 then (n : Int) else D 82 j) = (if j = 37 then (n : Int) else if 27 + i ≤ j ∧ j < 37 then D 82 (38 + 10 * n + (j - 27)) else D 82 j)
    by_cases h1 : j = 37
    · rw [if_pos h1, if_pos h1]
    · rw [if_neg h1, if_neg h1, if_neg (by omega)]
  | k + 1, i, D, hk => by
    have x1 : rf_w (rf_w (38 + rf_w (10 * (n : Int))) + (i : Int)) = ((38 + 10 * n + i : Nat) : Int) := by
      rw [rg_w (z := 10 * (n : Int)) (by omega) (by omega), rg_w (z := 38 + 10 * (n : Int)) (by omega) (by omega), rg_w (by omega) (by omega)]
      omega
    have x2 : rf_w (27 + (i : Int)) = ((27 + i : Nat) : Int) := by
      rw [rg_w (by omega) (by omega)]
      omega
    have x3 : rf_w ((i : Int) + 1) = ((i + 1 : Nat) : Int) := by
      rw [rg_w (by omega) (by omega)]
      omega
    rw [rf_e_M_undo_35, if_pos (by omega)]
    try simp only [rg_gR_77_4, Int.reduceToNat, rg_kIs, rg_kLs, rg_kRs, rg_kVs, rg_nns, rg_bs, cond_true, cond_false, x1, x2, x3]
    rw [rg_aI_82 (by omega) (by omega)]
    try simp only [Int.reduceToNat, rg_kIs, rg_kLs, rg_kRs, rg_kVs, rg_nns, rg_bs, cond_true, cond_false]
    rw [rg_sI_82 (by omega) (by omega)]
    try simp only [Int.reduceToNat, rg_kIs, rg_kLs, rg_kRs, rg_kVs, rg_nns, rg_bs, cond_true, cond_false]
    rw [rg_M_undo_35 d hn l k (i + 1) _ (by omega), rg_up_u, rg_up_s, rg_tN, rg_tN]
    refine congrArg (fun f : Nat → Int => (some (some (.inl l), hp X (rg_up D 82 f)) : Option rf_R)) (funext fun j => ?_)
    unfold ud_B
    by_cases h1 : j = 37
    · rw [if_pos h1, if_pos h1]
    · rw [if_neg h1, if_neg h1]
      by_cases h2 : 27 + (i + 1) ≤ j ∧ j < 37
      · rw [if_pos h2, if_pos (by omega), rg_ui_n (by omega)]
      · rw [if_neg h2]
        by_cases h3 : j = 27 + i
        · rw [if_pos (by omega), h3, rg_ui_s, show 27 + i - 27 = i by omega]
        · rw [if_neg (by omega), rg_ui_n h3]
theorem LG.ud {A e : Nat → Int} {a b W : Int} {n m : Nat} (h : LG A e a b W n) (hm : m < n) : LG (ud_B A m 0) e a b W m := by
  refine h.back hm (if_pos rfl) (fun j hj => ?_) (fun i hi => ?_) (fun j hj => ?_)
  · unfold ud_B
    rw [if_neg (by omega), if_neg (by omega)]
  · unfold ud_B
    rw [if_neg (by omega), if_pos (by omega), show 27 + i - 27 = i by omega]
  · by_cases z : j = 37
    · omega
    · unfold ud_B
      rw [if_neg z, if_neg (by omega)]
end RGS7
