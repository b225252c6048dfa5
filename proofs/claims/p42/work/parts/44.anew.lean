/-! Things taken back: the class does its things anew, the reference takes its log. -/
theorem tr_begins {f A : Nat → Int} {a b W : Int} (h : (f 2 = a ∧ f 3 = b ∧ f 4 = 0) ∧ (f 9 = 0 ∧ f 10 = 1 ∧ f 11 = 0) ∧ (f 5 = 0 ∧ f 8 = 0 ∧ f 7 = 0 ∧ f 6 = W)) : TR f (sp_bg A a b W) 0 := by
  obtain ⟨⟨h1, h2, h3⟩, ⟨h4, h5, h6⟩, h7, h8, h9, h10⟩ := h
  exact ⟨⟨h1, h2, h3⟩, ⟨h4, h5, h6⟩, h7, h8, h9, h10⟩
section RGS7
variable {X : rf_X} {D : rf_D}
theorem rg_W_anew_9 (d : Nat) {A e : Nat → Int} {a b W : Int} {m : Nat} (hd : sp_hd A) (ha : 0 ≤ a ∧ a ≤ 9) (hb : 0 ≤ b ∧ b ≤ 9) (hW : 0 ≤ W ∧ W ≤ 6) (hDE : DE e m) : ∀ (k i : Nat) (D : rf_D), i + k = m → CR D 28 A W → D 4 1 = (m : Int) → D 5 = e → TR (D 43) (sp_ch A e a b W i) 0 → ∃ f', rf_j_W_doDeedsAnew_9 (d + 6) 0 (i : Int) (hp X D) = some (none, hp X (rg_up D 43 f')) ∧ TR f' (sp_ch A e a b W m) 0
  | 0, i, D, hk, hC, h4, h5, hT => by
    rw [rf_e_W_doDeedsAnew_9]
    try simp only [rg_gR_0_3, rg_row_gI rg_row_4, Int.reduceToNat, rg_kIs, rg_kLs, rg_kRs, rg_kVs, rg_nns, rg_bs, cond_true, cond_false]
    rw [h4, if_neg (by omega)]
    refine ⟨D 43, ?_, ?_⟩
    · rw [rg_up_i]
    · rw [show m = i by omega]
      exact hT
  | k + 1, i, D, hk, hC, h4, h5, hT => by
    have hi : i < m := by omega
    have th := hDE.2 i hi
    have m60 := hDE.1
    obtain ⟨st, s36, s34⟩ := sp_ch_st (A := A) (e := e) ha hb hW i (by omega)
    have z1 : 1 ≤ A 2 ∧ A 2 ≤ 6 := hd.2.2.1
    have hdi : sp_hd (sp_ch A e a b W i) := sp_hd_of hd fun j hj => sp_ch_hd i j hj
    have hCi : CR D 28 (sp_ch A e a b W i) W := hC.ofs z1.2 fun j hj => sp_ch_hd i j hj
    have rl := sp_rail_02 hdi st
    have w1 := rg_T_rail (X := X) (D := D) rg_tr_43 hCi hdi st (by omega) (d + 3) hT.2.2.2.1
    obtain ⟨f1, w2, w3⟩ := rg_T_does (X := X) (D := D) rg_tr_43 hCi hdi hT st (by omega) ⟨Int.le_refl 0, by decide⟩ s36 (d + 1) th.1 th.2 (fun _ => rl)
    obtain ⟨f', r1, r2⟩ := rg_W_anew_9 d hd ha hb hW hDE k (i + 1) (rg_up D 43 f1) (by omega) (hC.up (by omega)) (by rw [rg_up_n (by decide)]; exact h4) (by rw [rg_up_n (by decide)]; exact h5) (by rw [rg_up_s]; exact w3)
    refine ⟨f', ?_, r2⟩
    rw [rg_up_u] at r1
    rw [rf_e_W_doDeedsAnew_9]
    try simp only [rg_gR_0_3, rg_row_gI rg_row_4, Int.reduceToNat, rg_kIs, rg_kLs, rg_kRs, rg_kVs, rg_nns, rg_bs, cond_true, cond_false]
    rw [h4, if_pos (by omega)]
    try simp only [rg_gR_0_3, rg_gR_0_10, rg_hp1, rg_row_o rg_row_4, Int.reduceToNat, rg_kIs, rg_kLs, rg_kRs, rg_kVs, rg_nns, rg_bs, cond_true, cond_false]
    rw [rg_R_cellI rg_row_4 (d + 5) (by omega) (by omega) (by omega)]
    try simp only [rg_gR_0_10, rg_hp1, rg_tr_43.1, Int.reduceToNat, rg_kIs, rg_kLs, rg_kRs, rg_kVs, rg_nns, rg_bs, cond_true, cond_false]
    rw [w1]
    try simp only [rg_hp1, rg_tr_43.1, Int.reduceToNat, rg_kIs, rg_kLs, rg_kRs, rg_kVs, rg_nns, rg_bs, cond_true, cond_false]
    rw [show D (4 + 1) ((i : Int)).toNat = e i by rw [rg_tN, ← h5], w2]
    try simp only [Int.reduceToNat, rg_kIs, rg_kLs, rg_kRs, rg_kVs, rg_nns, rg_bs, cond_true, cond_false]
    rw [rg_w (by omega) (by omega), show ((i : Int) + 1) = ((i + 1 : Nat) : Int) by omega]
    exact r1
theorem rg_W_anew (d : Nat) {A : Nat → Int} {m : Nat} (hd : sp_hd A) (ha : 0 ≤ D 28 8 ∧ D 28 8 ≤ 9) (hb : 0 ≤ D 28 9 ∧ D 28 9 ≤ 9) (hC : CR D 28 A (D 31 1)) (h4 : D 4 1 = (m : Int)) (hDE : DE (D 5) m) : ∃ f', rf_call (d + 7) 69 [.inr (.inr (some 0))] (hp X D) = some (none, hp X (rg_up D 43 f')) ∧ TR f' (sp_ch A (D 5) (D 28 8) (D 28 9) (D 31 1) m) 0 := by
  obtain ⟨f0, b1, b2⟩ := rg_T_begins (X := X) (D := D) rg_tr_43 (by decide) (d + 5)
  obtain ⟨f', r1, r2⟩ := rg_W_anew_9 (X := X) d hd ha hb hC.2.2.2.1 hDE m 0 (rg_up D 43 f0) (by omega) (hC.up (by omega)) (by rw [rg_up_n (by decide)]; exact h4) (by rw [rg_up_n (by decide)]) (by rw [rg_up_s]; exact tr_begins b2)
  refine ⟨f', ?_, r2⟩
  rw [rg_up_u] at r1
  rw [rf_e_W_doDeedsAnew]
  try simp only [rg_gR_0_10, rg_hp1, rg_tr_43.1, Int.reduceToNat, rg_kIs, rg_kLs, rg_kRs, rg_kVs, rg_nns, rg_bs, cond_true, cond_false]
  rw [b1]
  try simp only [Int.reduceToNat, rg_kIs, rg_kLs, rg_kRs, rg_kVs, rg_nns, rg_bs, cond_true, cond_false]
  exact r1
/-- with no thing done the class begins, and no more -/
theorem rg_W_anew0 (d : Nat) (h4 : D 4 1 = 0) : ∃ f', rf_call (d + 7) 69 [.inr (.inr (some 0))] (hp X D) = some (none, hp X (rg_up D 43 f')) ∧ f' 6 = D 31 1 ∧ f' 10 = 1 := by
  obtain ⟨f0, b1, b2⟩ := rg_T_begins (X := X) (D := D) rg_tr_43 (by decide) (d + 5)
  refine ⟨f0, ?_, b2.2.2.2.2.2, b2.2.1.2.1⟩
  rw [rf_e_W_doDeedsAnew]
  try simp only [rg_gR_0_10, rg_hp1, rg_tr_43.1, Int.reduceToNat, rg_kIs, rg_kLs, rg_kRs, rg_kVs, rg_nns, rg_bs, cond_true, cond_false]
  rw [b1]
  try simp only [Int.reduceToNat, rg_kIs, rg_kLs, rg_kRs, rg_kVs, rg_nns, rg_bs, cond_true, cond_false]
  rw [rf_e_W_doDeedsAnew_9]
  try simp only [rg_gR_0_3, rg_row_gI rg_row_4, Int.reduceToNat, rg_kIs, rg_kLs, rg_kRs, rg_kVs, rg_nns, rg_bs, cond_true, cond_false]
  rw [rg_up_n (by decide), h4, if_neg (by decide)]
def ud_B (A : Nat → Int) (n i : Nat) : Nat → Int := fun j => if j = 37 then (n : Int) else if 27 + i ≤ j ∧ j < 37 then A (38 + 10 * n + (j - 27)) else A j
theorem LG.ud {A e : Nat → Int} {a b W : Int} {n m : Nat} (h : LG A e a b W n) (hm : m < n) : LG (ud_B A m 0) e a b W m := by
  refine h.back hm (if_pos rfl) (fun j hj => ?_) (fun i hi => ?_) (fun j hj => ?_)
  · unfold ud_B
    rw [if_neg (by omega), if_neg (by omega)]
  · unfold ud_B
    rw [if_neg (by omega), if_pos (by omega), show 27 + i - 27 = i by omega]
  · by_cases z : j = 37
    · omega
    · unfold ud_B
      rw [if_neg z, if_neg (by omega)]
end RGS7
