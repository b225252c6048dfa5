/-! Rows, texts; things done and undone, kept and gone on from. -/
section PQC
variable {X : rf_X} {D : rf_D}
theorem pq_row {R N : Nat} (hR : R < 6) (hN : N ≤ 40) (d : Nat) : rf_call (d + 8) 54 [.inr (.inr (some 0)), .inl (R : Int), .inl (N : Int)] (hp X D) = some (some (.inl (N : Int)), hp X (rg_up (rg_up D (44 + 2 * R) (rg_ui (D (44 + 2 * R)) 1 (N : Int))) (44 + 2 * R + 1) (fun j => if (j : Int) < (N : Int) then 0 else D (44 + 2 * R + 1) j))) := by
  have row := rg_rowN (X := X) (D := D) hR
  rw [rf_e_W_row]
  simp only [rg_gR_0_0, Int.reduceToNat, rg_kIs, rg_kLs, rg_kRs, rg_kVs, rg_nns, rg_bs, cond_true, cond_false]
  rw [rg_W_pick_y (n := 6) (d + 6) (rg_aL_1 X D) (by omega) row.2]
  simp only [rg_hp1, rg_o_0, Int.reduceToNat, rg_kIs, rg_kLs, rg_kRs, rg_kVs, rg_nns, rg_bs, cond_true, cond_false]
  rw [rf_e_W_renewed, rg_nzs, if_neg (by omega), if_neg (by omega)]
  simp only [rg_hp1, rg_row_o row.1, Int.reduceToNat, rg_kIs, rg_kLs, rg_kRs, rg_kVs, rg_nns, rg_bs, cond_true, cond_false]
  rw [rg_R_renew row.1 (d + 3) (by omega) (by omega) (by decide)]
  simp only [Int.reduceToNat, rg_kIs, rg_kLs, rg_kRs, rg_kVs, rg_nns, rg_bs, cond_true, cond_false]
theorem pq_at {R I : Nat} (hR : R < 6) (h6 : D 6 1 = 6) (h40 : D (44 + 2 * R) 1 ≤ 40) (hI : (I : Int) < D (44 + 2 * R) 1) (d : Nat) : rf_call (d + 8) 61 [.inr (.inr (some 0)), .inl (R : Int), .inl (I : Int)] (hp X D) = some (some (.inl 1), hp X (wtl (D (44 + 2 * R + 1) I) D)) := by
  have row := rg_rowN (X := X) (D := D) hR
  rw [rf_e_W_at]
  try simp only [rg_gR_0_0, Int.reduceToNat, rg_kIs, rg_kLs, rg_kRs, rg_kVs, rg_nns, rg_bs, cond_true, cond_false]
  rw [rg_W_pick_y (n := 6) (d + 6) (rg_aL_1 X D) (by omega) row.2]
  try simp only [rg_hp1, rg_o_0, rg_row_o row.1, rg_nzs, Int.reduceToNat, rg_kIs, rg_kLs, rg_kRs, rg_kVs, rg_nns, rg_bs, cond_true, cond_false]
  rw [rg_W_refP row.1 (d + 3) h6 (by omega) (I : Int)]
  try simp only [if_neg (show ¬ D (44 + 2 * R) 1 < 0 by omega), if_pos (show 0 ≤ (I : Int) ∧ (I : Int) < D (44 + 2 * R) 1 by omega), Int.reduceToNat, rg_kIs, rg_kLs, rg_kRs, rg_kVs, rg_nns, rg_bs, cond_true, cond_false]
  rw [if_pos (by decide)]
  try simp only [rg_hp1, rg_row_o row.1, Int.reduceToNat, rg_kIs, rg_kLs, rg_kRs, rg_kVs, rg_nns, rg_bs, cond_true, cond_false]
  rw [rg_R_cellI row.1 (d + 6) (by omega) hI (by omega)]
  try simp only [rg_hp1, rg_o_0, rg_row_o row.1, Int.reduceToNat, rg_kIs, rg_kLs, rg_kRs, rg_kVs, rg_nns, rg_bs, cond_true, cond_false]
  rw [rg_W_tell, rg_tN]
  try simp only [Int.reduceToNat, rg_kIs, rg_kLs, rg_kRs, rg_kVs, rg_nns, rg_bs, cond_true, cond_false]
theorem pq_lay {R I : Nat} (hR : R < 6) (h6 : D 6 1 = 6) (h40 : D (44 + 2 * R) 1 ≤ 40) (hI : (I : Int) < D (44 + 2 * R) 1) (v : Int) (d : Nat) : rf_call (d + 8) 58 [.inr (.inr (some 0)), .inl (R : Int), .inl (I : Int), .inl v] (hp X D) = some (some (.inl 1), hp X (wtl (D (44 + 2 * R + 1) I) (rg_up D (44 + 2 * R + 1) (rg_ui (D (44 + 2 * R + 1)) I v)))) := by
  have row := rg_rowN (X := X) (D := D) hR
  rw [rf_e_W_lay]
  try simp only [rg_gR_0_0, Int.reduceToNat, rg_kIs, rg_kLs, rg_kRs, rg_kVs, rg_nns, rg_bs, cond_true, cond_false]
  rw [rg_W_pick_y (n := 6) (d + 6) (rg_aL_1 X D) (by omega) row.2]
  try simp only [rg_hp1, rg_o_0, rg_row_o row.1, rg_nzs, Int.reduceToNat, rg_kIs, rg_kLs, rg_kRs, rg_kVs, rg_nns, rg_bs, cond_true, cond_false]
  rw [rg_W_refP row.1 (d + 3) h6 (by omega) (I : Int)]
  try simp only [if_neg (show ¬ D (44 + 2 * R) 1 < 0 by omega), if_pos (show 0 ≤ (I : Int) ∧ (I : Int) < D (44 + 2 * R) 1 by omega), Int.reduceToNat, rg_kIs, rg_kLs, rg_kRs, rg_kVs, rg_nns, rg_bs, cond_true, cond_false]
  rw [if_pos (by decide)]
  try simp only [rg_hp1, rg_row_o row.1, Int.reduceToNat, rg_kIs, rg_kLs, rg_kRs, rg_kVs, rg_nns, rg_bs, cond_true, cond_false]
  rw [rg_R_cellI row.1 (d + 6) (by omega) hI (by omega)]
  try simp only [rg_hp1, rg_o_0, rg_row_o row.1, Int.reduceToNat, rg_kIs, rg_kLs, rg_kRs, rg_kVs, rg_nns, rg_bs, cond_true, cond_false]
  rw [rg_R_setI row.1 (d + 5) (by omega) hI (by omega)]
  try simp only [rg_hp1, rg_o_0, Int.reduceToNat, rg_kIs, rg_kLs, rg_kRs, rg_kVs, rg_nns, rg_bs, cond_true, cond_false]
  rw [rg_W_tell, rg_tN]
  try simp only [Int.reduceToNat, rg_kIs, rg_kLs, rg_kRs, rg_kVs, rg_nns, rg_bs, cond_true, cond_false]
theorem pq_text {R N : Nat} (hR : R < 4) (hN : N ≤ 60) (d : Nat) : rf_call (d + 8) 65 [.inr (.inr (some 0)), .inl (R : Int), .inl (N : Int)] (hp X D) = some (some (.inl (N : Int)), hp X (rg_up (rg_up D (56 + 2 * R) (rg_ui (D (56 + 2 * R)) 1 (N : Int))) (56 + 2 * R + 1) (fun j => if (j : Int) < (N : Int) then 32 else D (56 + 2 * R + 1) j))) := by
  have row := rg_textN (X := X) (D := D) hR
  rw [rf_e_W_text]
  simp only [rg_gR_0_1, Int.reduceToNat, rg_kIs, rg_kLs, rg_kRs, rg_kVs, rg_nns, rg_bs, cond_true, cond_false]
  rw [rg_W_pick_y (n := 4) (d + 6) (rg_aL_2 X D) (by omega) row.2]
  simp only [rg_hp1, rg_o_0, Int.reduceToNat, rg_kIs, rg_kLs, rg_kRs, rg_kVs, rg_nns, rg_bs, cond_true, cond_false]
  rw [rf_e_W_renewed, rg_nzs, if_neg (by omega), if_neg (by omega)]
  simp only [rg_hp1, rg_row_o row.1, Int.reduceToNat, rg_kIs, rg_kLs, rg_kRs, rg_kVs, rg_nns, rg_bs, cond_true, cond_false]
  rw [rg_R_renew row.1 (d + 3) (by omega) (by omega) (by decide)]
  simp only [Int.reduceToNat, rg_kIs, rg_kLs, rg_kRs, rg_kVs, rg_nns, rg_bs, cond_true, cond_false]
theorem pq_put {R I : Nat} (hR : R < 4) (h6 : D 6 1 = 6) (h60 : D (56 + 2 * R) 1 ≤ 60) (hI : (I : Int) < D (56 + 2 * R) 1) (v : Int) (d : Nat) : rf_call (d + 8) 66 [.inr (.inr (some 0)), .inl (R : Int), .inl (I : Int), .inl v] (hp X D) = some (some (.inl (rf_w (D (56 + 2 * R + 1) I + 1000))), hp X (rg_up D (56 + 2 * R + 1) (rg_ui (D (56 + 2 * R + 1)) I (rf_w8 v)))) := by
  have row := rg_textN (X := X) (D := D) hR
  rw [rf_e_W_put]
  try simp only [rg_gR_0_1, Int.reduceToNat, rg_kIs, rg_kLs, rg_kRs, rg_kVs, rg_nns, rg_bs, cond_true, cond_false]
  rw [rg_W_pick_y (n := 4) (d + 6) (rg_aL_2 X D) (by omega) row.2]
  try simp only [rg_hp1, rg_o_0, rg_row_o row.1, rg_nzs, Int.reduceToNat, rg_kIs, rg_kLs, rg_kRs, rg_kVs, rg_nns, rg_bs, cond_true, cond_false]
  rw [rg_W_refP row.1 (d + 3) h6 (by omega) (I : Int)]
  try simp only [if_neg (show ¬ D (56 + 2 * R) 1 < 0 by omega), if_pos (show 0 ≤ (I : Int) ∧ (I : Int) < D (56 + 2 * R) 1 by omega), Int.reduceToNat, rg_kIs, rg_kLs, rg_kRs, rg_kVs, rg_nns, rg_bs, cond_true, cond_false]
  rw [if_pos (by decide)]
  try simp only [rg_hp1, rg_row_o row.1, Int.reduceToNat, rg_kIs, rg_kLs, rg_kRs, rg_kVs, rg_nns, rg_bs, cond_true, cond_false]
  rw [rg_R_cellI row.1 (d + 6) (by omega) hI (by omega)]
  try simp only [rg_hp1, rg_o_0, rg_row_o row.1, Int.reduceToNat, rg_kIs, rg_kLs, rg_kRs, rg_kVs, rg_nns, rg_bs, cond_true, cond_false]
  rw [rg_R_setI row.1 (d + 5) (by omega) hI (by omega)]
  try simp only [rg_hp1, rg_o_0, Int.reduceToNat, rg_kIs, rg_kLs, rg_kRs, rg_kVs, rg_nns, rg_bs, cond_true, cond_false]
  rw [rg_tN]
/-- a train, and the things done with it -/
def pq_DS (D : rf_D) (A : Nat → Int) (a b W : Int) (n : Nat) : Prop := pq_TS D ∧ D 0 12 = 1 ∧ sp_hd A ∧ CR D 28 A W ∧ (D 31 1 = W ∧ D 28 8 = a ∧ D 28 9 = b) ∧ (0 ≤ a ∧ a ≤ 9) ∧ (0 ≤ b ∧ b ≤ 9) ∧ D 4 1 = (n : Int) ∧ DE (D 5) n ∧ TR (D 43) (sp_ch A (D 5) a b W n) 0
theorem pq_DS.rs {A : Nat → Int} {a b W : Int} {n : Nat} (h : pq_DS D A a b W n) : pq_RS D (sp_ch A (D 5) a b W n) W (n : Int) := by
  obtain ⟨h1, h2, h3, h4, h5, ha, hb, h7, h8, h9⟩ := h
  have hW := h4.2.2.2.1
  have n60 := h8.1
  have st := sp_ch_st (A := A) (e := D 5) ha hb hW n (by omega)
  have z1 : 1 ≤ A 2 ∧ A 2 ≤ 6 := h3.2.2.1
  exact ⟨h1, h2, sp_hd_of h3 fun j hj => sp_ch_hd n j hj, h4.ofs z1.2 fun k hk => sp_ch_hd n k hk, h9, st.1, by omega, st.2.1⟩
theorem pq_DS.of {D' : rf_D} {A : Nat → Int} {a b W : Int} {n : Nat} (h : pq_DS D A a b W n) (e : ∀ k, (k = 4 ∨ k = 5 ∨ k = 6 ∨ k = 8 ∨ k = 10 ∨ (28 ≤ k ∧ k ≤ 43)) → D' k = D k) (e0 : D' 0 12 = D 0 12) : pq_DS D' A a b W n := by
  unfold pq_DS pq_TS
  obtain ⟨h1, h2, h3, h4, h5, ha, hb, h7, h8, h9⟩ := h
  rw [e 4 (by omega), e 5 (by omega), e 6 (by omega), e 8 (by omega), e 10 (by omega), e 28 (by omega), e 31 (by omega), e 43 (by omega), e0]
  exact ⟨h1, h2, h3, h4.of fun k _ _ => e k (by omega), h5, ha, hb, h7, h8, h9⟩
theorem pq_DS.fq {D' : rf_D} {A : Nat → Int} {a b W : Int} {n : Nat} (h : pq_DS D A a b W n) (f : pq_FQ D D') : pq_DS D' A a b W n := h.of (fun k hk => f.1 k (by omega) (by omega) (by omega) (by omega)) f.2
theorem pq_go {A : Nat → Int} {a b W : Int} {n : Nat} (h : pq_DS D A a b W n) (hn : n ≤ 59) {t : Int} (t0 : 0 ≤ t) (t14 : t ≤ 14) (c : sp_can (sp_ch A (D 5) a b W n) t = true) (d : Nat) : ∃ D', rf_call (d + 10) 77 [.inr (.inr (some 0)), .inl t] (hp X D) = some (some (.inl (sp_does (sp_ch A (D 5) a b W n) t (sp_rail (sp_ch A (D 5) a b W n))).1), hp X D') ∧ pq_DS D' A a b W (n + 1) ∧ (∀ k, k ≠ 4 → k ≠ 5 → k ≠ 43 → D' k = D k) ∧ (∀ k, k < n → D' 5 k = D 5 k) ∧ D' 5 n = t := by
  have hr := h.rs
  obtain ⟨h1, h12, hA, hCA, h5, ha, hb, h4, hDE, -⟩ := h
  have hW := hCA.2.2.2.1
  obtain ⟨s, hs⟩ : ∃ s, s = sp_ch A (D 5) a b W n := ⟨_, rfl⟩
  rw [← hs] at hr c ⊢
  obtain ⟨-, -, hd, hC, hT, st, hm, h36⟩ := hr
  have rl := sp_rail_02 hd st
  have cb := rg_T_canBe (X := X) (D := D) rg_tr_43 hT st (d + 8) t0 t14
  obtain ⟨D1, hD1⟩ : ∃ D1, D1 = rg_up (rg_up D 4 (rg_ui (D 4) 1 (D 4 1 + 1))) (4 + 1) (rg_ui (D (4 + 1)) (D 4 1).toNat t) := ⟨_, rfl⟩
  have D1n : ∀ a, a ≠ 4 → a ≠ 5 → D1 a = D a := fun a y1 y2 => by rw [hD1, rg_up_n y2, rg_up_n y1]
  have hC1 : CR D1 28 s W := hC.of fun a y1 y2 => D1n a (by omega) (by omega)
  have w2 := rg_T_rail (X := X) (D := D1) rg_tr_43 hC1 hd st (by omega) (d + 5) (by rw [D1n 43 (by decide) (by decide)]; exact hT.2.2.2.1)
  obtain ⟨f', w3, w4⟩ := rg_T_does (X := X) (D := D1) rg_tr_43 hC1 hd (by rw [D1n 43 (by decide) (by decide)]; exact hT) st (by omega) ⟨Int.le_refl 0, by decide⟩ h36 (d + 3) t0 t14 (fun _ => rl)
  obtain ⟨D2, hD2⟩ : ∃ D2, D2 = rg_up D1 43 f' := ⟨_, rfl⟩
  have D2n : ∀ a, a ≠ 4 → a ≠ 5 → a ≠ 43 → D2 a = D a := fun a y1 y2 y3 => by rw [hD2, rg_up_n y3, D1n a y1 y2]
  have D25 : D2 5 = rg_ui (D 5) n t := by
    rw [hD2, rg_up_n (by decide), hD1, rg_up_s, h4, rg_tN]
  have e5 : ∀ k, k < n → D2 5 k = D 5 k := fun k hk => by rw [D25, rg_ui_n (by omega)]
  have e5n : D2 5 n = t := by rw [D25, rg_ui_s]
  have sn : sp_ch A (D2 5) a b W (n + 1) = (sp_does s t (sp_rail s)).2 := by
    show (sp_does (sp_ch A (D2 5) a b W n) (D2 5 n) (sp_rail (sp_ch A (D2 5) a b W n))).2 = _
    rw [e5n, sp_ch_of (A := A) (A' := A) (e := D 5) (fun _ _ => rfl) a b W (k := n) (fun i hi => e5 i hi), ← hs]
  refine ⟨D2, ?_, ⟨?_, ?_, hA, hCA.of fun k _ _ => ?_, ?_, ha, hb, ?_, ?_, ?_⟩, D2n, e5, e5n⟩
  · rw [rf_e_W_go, if_neg (by omega), if_pos (by omega)]
    try simp only [rg_gI_0, Int.reduceToNat, rg_kIs, rg_kLs, rg_kRs, rg_kVs, rg_nns, rg_bs, cond_true, cond_false]
    rw [if_neg (by omega)]
    try simp only [rg_gR_0_10, rg_hp1, rg_tr_43.1, Int.reduceToNat, rg_kIs, rg_kLs, rg_kRs, rg_kVs, rg_nns, rg_bs, cond_true, cond_false]
    rw [cb, if_pos c]
    try simp only [Int.reduceToNat, rg_kIs, rg_kLs, rg_kRs, rg_kVs, rg_nns, rg_bs, cond_true, cond_false]
    rw [if_neg (by decide)]
    try simp only [rg_gR_0_3, rg_row_gI rg_row_4, rg_hp1, rg_o_0, Int.reduceToNat, rg_kIs, rg_kLs, rg_kRs, rg_kVs, rg_nns, rg_bs, cond_true, cond_false]
    rw [if_pos (by omega), rf_e_W_doDeed]
    try simp only [rg_gR_0_3, rg_hp1, rg_row_o rg_row_4, Int.reduceToNat, rg_kIs, rg_kLs, rg_kRs, rg_kVs, rg_nns, rg_bs, cond_true, cond_false]
    rw [rg_R_add rg_row_4 (d + 5) (by omega) (by omega) (by decide), ← hD1]
    try simp only [rg_gR_0_10, rg_hp1, rg_tr_43.1, Int.reduceToNat, rg_kIs, rg_kLs, rg_kRs, rg_kVs, rg_nns, rg_bs, cond_true, cond_false]
    rw [w2]
    try simp only [rg_hp1, rg_tr_43.1, Int.reduceToNat, rg_kIs, rg_kLs, rg_kRs, rg_kVs, rg_nns, rg_bs, cond_true, cond_false]
    rw [w3]
    try simp only [Int.reduceToNat, rg_kIs, rg_kLs, rg_kRs, rg_kVs, rg_nns, rg_bs, cond_true, cond_false]
    rw [hD2]
  · unfold pq_TS
    rw [D2n 6 (by decide) (by decide) (by decide), D2n 8 (by decide) (by decide) (by decide), D2n 10 (by decide) (by decide) (by decide)]
    exact h1
  · rw [D2n 0 (by decide) (by decide) (by decide)]
    exact h12
  · by_cases z : k = 43
    · omega
    · exact D2n k (by omega) (by omega) z
  · rw [D2n 31 (by decide) (by decide) (by decide), D2n 28 (by decide) (by decide) (by decide)]
    exact h5
  · rw [hD2, rg_up_n (by decide), hD1, rg_up_n (by decide), rg_up_s, rg_ui_s, h4]
    omega
  · refine ⟨by omega, fun k hk => ?_⟩
    by_cases z : k = n
    · rw [z, e5n]
      exact ⟨t0, t14⟩
    · rw [e5 k (by omega)]
      exact hDE.2 k (by omega)
  · rw [sn, hD2, rg_up_s]
    exact w4
theorem pq_goN {A : Nat → Int} {a b W : Int} {n : Nat} (h : pq_DS D A a b W n) {t : Int} (t0 : 0 ≤ t) (t14 : t ≤ 14) (c : ¬ sp_can (sp_ch A (D 5) a b W n) t = true) (d : Nat) : rf_call (d + 10) 77 [.inr (.inr (some 0)), .inl t] (hp X D) = some (some (.inl (-4)), hp X D) := by
  have hr := h.rs
  obtain ⟨h1, h12, hA, hCA, h5, ha, hb, h4, hDE, -⟩ := h
  obtain ⟨-, -, hd, hC, hT, st, hm, h36⟩ := hr
  have cb := rg_T_canBe (X := X) (D := D) rg_tr_43 hT st (d + 8) t0 t14
  rw [rf_e_W_go, if_neg (by omega), if_pos (by omega)]
  try simp only [rg_gI_0, Int.reduceToNat, rg_kIs, rg_kLs, rg_kRs, rg_kVs, rg_nns, rg_bs, cond_true, cond_false]
  rw [if_neg (by omega)]
  try simp only [rg_gR_0_10, rg_hp1, rg_tr_43.1, Int.reduceToNat, rg_kIs, rg_kLs, rg_kRs, rg_kVs, rg_nns, rg_bs, cond_true, cond_false]
  rw [cb, if_neg c]
  try simp only [Int.reduceToNat, rg_kIs, rg_kLs, rg_kRs, rg_kVs, rg_nns, rg_bs, cond_true, cond_false]
  rw [if_pos (by decide)]
theorem pq_undo {A : Nat → Int} {a b W : Int} {n k : Nat} (h : pq_DS D A a b W n) (hk : k ≤ n) (d : Nat) : ∃ D', rf_call (d + 8) 79 [.inr (.inr (some 0)), .inl (k : Int)] (hp X D) = some (some (.inl ((n : Int) - (k : Int))), hp X D') ∧ pq_DS D' A a b W k ∧ (∀ a, a ≠ 4 → a ≠ 43 → D' a = D a) := by
  obtain ⟨h1, h12, hA, hCA, h5, ha, hb, h4, hDE, -⟩ := h
  have n60 := hDE.1
  obtain ⟨D1, hD1⟩ : ∃ D1, D1 = rg_up D 4 (rg_ui (D 4) 1 (k : Int)) := ⟨_, rfl⟩
  have D1n : ∀ a, a ≠ 4 → D1 a = D a := fun a y => by rw [hD1, rg_up_n y]
  have D14 : D1 4 1 = (k : Int) := by rw [hD1, rg_up_s, rg_ui_s]
  have hC1 : CR D1 28 A W := hCA.of fun a y1 y2 => D1n a (by omega)
  have DEk : DE (D 5) k := ⟨by omega, fun i hi => hDE.2 i (by omega)⟩
  obtain ⟨f', a1, a2⟩ := rg_W_anew (X := X) (D := D1) d (A := A) (m := k) hA (by rw [D1n 28 (by decide), h5.2.1]; exact ha) (by rw [D1n 28 (by decide), h5.2.2]; exact hb) (by rw [D1n 31 (by decide), h5.1]; exact hC1) D14 (by rw [D1n 5 (by decide)]; exact DEk)
  rw [D1n 5 (by decide), D1n 28 (by decide), D1n 31 (by decide), h5.1, h5.2.1, h5.2.2] at a2
  have w := ud_W (X := X) (D := D) (f' := f') d h4 hk (by rw [← hD1]; exact a1)
  rw [← hD1, rg_w (z := (n : Int) - (k : Int)) (by omega) (by omega)] at w
  have F : ∀ a, a ≠ 4 → a ≠ 43 → rg_up D1 43 f' a = D a := fun a y1 y2 => by rw [rg_up_n y2, D1n a y1]
  refine ⟨rg_up D1 43 f', w, ⟨?_, ?_, hA, hCA.of fun k _ _ => F k (by omega) (by omega), ?_, ha, hb, ?_, ?_, ?_⟩, F⟩
  · unfold pq_TS
    rw [F 6 (by decide) (by decide), F 8 (by decide) (by decide), F 10 (by decide) (by decide)]
    exact h1
  · rw [F 0 (by decide) (by decide)]
    exact h12
  · rw [F 31 (by decide) (by decide), F 28 (by decide) (by decide)]
    exact h5
  · rw [rg_up_n (by decide)]
    exact D14
  · rw [F 5 (by decide) (by decide)]
    exact DEk
  · rw [F 5 (by decide) (by decide), rg_up_s]
    exact a2
theorem pq_keep {A : Nat → Int} {a b W : Int} {n : Nat} (h : pq_DS D A a b W n) (d : Nat) : ∃ D', rf_call (d + 8) 80 [.inr (.inr (some 0)), .inl 2] (hp X D) = some (some (.inl (n : Int)), hp X D') ∧ (∀ a, a ≠ 68 → a ≠ 69 → D' a = D a) ∧ D' 68 1 = (n : Int) ∧ ∀ j, j < n → D' 69 j = D 5 j := by
  obtain ⟨h1, h12, hA, hCA, h5, ha, hb, h4, hDE, -⟩ := h
  have n60 := hDE.1
  have row := rg_keptN (X := X) (D := D) (K := 2) (by decide)
  rw [show ((2 : Nat) : Int) = 2 from rfl] at row
  obtain ⟨D1, hD1⟩ : ∃ D1, D1 = rg_up (rg_up D (64 + 2 * 2) (rg_ui (D (64 + 2 * 2)) 1 (D 4 1))) (64 + 2 * 2 + 1) (fun j => if (j : Int) < D 4 1 then D (4 + 1) j else D (64 + 2 * 2 + 1) j) := ⟨_, rfl⟩
  have D1n : ∀ a, a ≠ 68 → a ≠ 69 → D1 a = D a := fun a y1 y2 => by rw [hD1, rg_up_n y2, rg_up_n y1]
  have bec := rg_R_becomes (X := X) (D := D) row.1 rg_row_4 (by omega) (by omega) (by omega) (d + 4) (by decide) (by omega) (by rw [h4]; omega) (by rw [h4]; omega)
  rw [← hD1] at bec
  refine ⟨D1, ?_, D1n, ?_, fun j hj => ?_⟩
  · rw [rf_e_W_keep]
    try simp only [rg_gR_0_2, Int.reduceToNat, rg_kIs, rg_kLs, rg_kRs, rg_kVs, rg_nns, rg_bs, cond_true, cond_false]
    rw [rg_W_pick_y (n := 3) (d + 6) (rg_aL_3 X D) (by omega) row.2]
    try simp only [rg_nzs, rg_gI_0, Int.reduceToNat, rg_kIs, rg_kLs, rg_kRs, rg_kVs, rg_nns, rg_bs, cond_true, cond_false]
    rw [if_neg (by omega)]
    try simp only [rg_gR_0_3, rg_hp1, rg_row_o row.1, Int.reduceToNat, rg_kIs, rg_kLs, rg_kRs, rg_kVs, rg_nns, rg_bs, cond_true, cond_false]
    rw [bec]
    try simp only [rg_gR_0_3, rg_row_gI rg_row_4, Int.reduceToNat, rg_kIs, rg_kLs, rg_kRs, rg_kVs, rg_nns, rg_bs, cond_true, cond_false]
    rw [D1n 4 (by omega) (by omega), h4]
  · rw [hD1, rg_up_n (by decide), show (68 : Nat) = 64 + 2 * 2 from rfl, rg_up_s, rg_ui_s, h4]
  · rw [hD1, show (69 : Nat) = 64 + 2 * 2 + 1 from rfl, rg_up_s]
    exact if_pos (by omega)
theorem pq_on {A : Nat → Int} {a b W : Int} {n p : Nat} (h : pq_DS D A a b W n) (k1 : D 68 1 = (p : Int)) (k2 : DE (D 69) p) (d : Nat) : ∃ D', rf_call (d + 8) 81 [.inr (.inr (some 0)), .inl 2] (hp X D) = some (some (.inl (p : Int)), hp X D') ∧ pq_DS D' A a b W p ∧ (∀ a, a ≠ 4 → a ≠ 5 → a ≠ 43 → D' a = D a) ∧ ∀ j, j < p → D' 5 j = D 69 j := by
  obtain ⟨h1, h12, hA, hCA, h5, ha, hb, h4, hDE, -⟩ := h
  have p60 := k2.1
  have row := rg_keptN (X := X) (D := D) (K := 2) (by decide)
  rw [show ((2 : Nat) : Int) = 2 from rfl] at row
  obtain ⟨D1, hD1⟩ : ∃ D1, D1 = rg_up (rg_up D 4 (rg_ui (D 4) 1 (D (64 + 2 * 2) 1))) (4 + 1) (fun j => if (j : Int) < D (64 + 2 * 2) 1 then D (64 + 2 * 2 + 1) j else D (4 + 1) j) := ⟨_, rfl⟩
  have D1n : ∀ a, a ≠ 4 → a ≠ 5 → D1 a = D a := fun a y1 y2 => by rw [hD1, rg_up_n y2, rg_up_n y1]
  have k1' : D (64 + 2 * 2) 1 = (p : Int) := k1
  have D14 : D1 4 1 = (p : Int) := by rw [hD1, rg_up_n (by decide), rg_up_s, rg_ui_s, k1']
  have D15 : ∀ j, j < p → D1 5 j = D 69 j := fun j hj => by
    rw [hD1, rg_up_s]
    exact if_pos (by omega)
  have DE1 : DE (D1 5) p := ⟨p60, fun k hk => by rw [D15 k hk]; exact k2.2 k hk⟩
  have bec := rg_R_becomes (X := X) (D := D) rg_row_4 row.1 (by omega) (by omega) (by omega) (d + 4) (by decide) (by omega) (by rw [k1']; omega) (by rw [k1']; omega)
  rw [← hD1] at bec
  have hC1 : CR D1 28 A W := hCA.of fun a y1 y2 => D1n a (by omega) (by omega)
  obtain ⟨f', a1, a2⟩ := rg_W_anew (X := X) (D := D1) d (A := A) (m := p) hA (by rw [D1n 28 (by decide) (by decide), h5.2.1]; exact ha) (by rw [D1n 28 (by decide) (by decide), h5.2.2]; exact hb) (by rw [D1n 31 (by decide) (by decide), h5.1]; exact hC1) D14 DE1
  rw [D1n 28 (by decide) (by decide), D1n 31 (by decide) (by decide), h5.1, h5.2.1, h5.2.2] at a2
  have F : ∀ a, a ≠ 4 → a ≠ 5 → a ≠ 43 → rg_up D1 43 f' a = D a := fun a y1 y2 y3 => by rw [rg_up_n y3, D1n a y1 y2]
  have F5 : rg_up D1 43 f' 5 = D1 5 := by rw [rg_up_n (by decide)]
  refine ⟨rg_up D1 43 f', ?_, ⟨?_, ?_, hA, hCA.of fun k _ _ => F k (by omega) (by omega) (by omega), ?_, ha, hb, ?_, ?_, ?_⟩, F, fun j hj => by rw [F5]; exact D15 j hj⟩
  · rw [rf_e_W_on]
    try simp only [rg_gR_0_2, Int.reduceToNat, rg_kIs, rg_kLs, rg_kRs, rg_kVs, rg_nns, rg_bs, cond_true, cond_false]
    rw [rg_W_pick_y (n := 3) (d + 6) (rg_aL_3 X D) (by omega) row.2]
    try simp only [rg_nzs, rg_hp1, rg_row_o row.1, Int.reduceToNat, rg_kIs, rg_kLs, rg_kRs, rg_kVs, rg_nns, rg_bs, cond_true, cond_false]
    rw [rg_R_isThere row.1, if_neg (by omega)]
    try simp only [Int.reduceToNat, rg_kIs, rg_kLs, rg_kRs, rg_kVs, rg_nns, rg_bs, cond_true, cond_false]
    rw [if_neg (by decide)]
    try simp only [rg_gR_0_3, rg_hp1, rg_row_o rg_row_4, Int.reduceToNat, rg_kIs, rg_kLs, rg_kRs, rg_kVs, rg_nns, rg_bs, cond_true, cond_false]
    rw [bec]
    try simp only [rg_hp1, rg_o_0, Int.reduceToNat, rg_kIs, rg_kLs, rg_kRs, rg_kVs, rg_nns, rg_bs, cond_true, cond_false]
    rw [a1]
    try simp only [rg_gR_0_3, rg_row_gI rg_row_4, Int.reduceToNat, rg_kIs, rg_kLs, rg_kRs, rg_kVs, rg_nns, rg_bs, cond_true, cond_false]
    rw [rg_up_n (show (4 : Nat) ≠ 43 by decide), D14]
  · unfold pq_TS
    rw [F 6 (by decide) (by decide) (by decide), F 8 (by decide) (by decide) (by decide), F 10 (by decide) (by decide) (by decide)]
    exact h1
  · rw [F 0 (by decide) (by decide) (by decide)]
    exact h12
  · rw [F 31 (by decide) (by decide) (by decide), F 28 (by decide) (by decide) (by decide)]
    exact h5
  · rw [rg_up_n (by decide)]
    exact D14
  · rw [F5]
    exact DE1
  · rw [F5, rg_up_s]
    exact a2
end PQC
