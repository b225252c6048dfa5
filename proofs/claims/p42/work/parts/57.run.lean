/-! plans: what stands against one; run -/
theorem xs_1 {i : Nat} (h : i ≤ 1000) : rf_w ((i : Int) + 1) = ((i + 1 : Nat) : Int) := by
  rw [rg_w (by omega) (by omega)]
  omega
theorem xs_40 {R i : Nat} (h : R < 6) (hi : i ≤ 40) : rf_w (rf_w (40 * (R : Int)) + (i : Int)) = ((40 * R + i : Nat) : Int) := by
  rw [rg_w (z := 40 * (R : Int)) (by omega) (by omega), rg_w (by omega) (by omega)]
  omega
def pl_c (f : Nat → Int) (i : Nat) : Bool := decide (0 ≤ f i ∧ f i < 15)
def pl_all (f : Nat → Int) : Nat → Nat → Bool
  | _, 0 => true
  | i, k + 1 => pl_c f i && pl_all f (i + 1) k
theorem pl_at {f : Nat → Int} : ∀ (k i : Nat), pl_all f i k = true → ∀ j, i ≤ j → j < i + k → 0 ≤ f j ∧ f j < 15
  | 0, i, _, j, h1, h2 => by omega
  | k + 1, i, h, j, h1, h2 => by
    have e : (pl_c f i && pl_all f (i + 1) k) = true := h
    rw [Bool.and_eq_true] at e
    by_cases z : j = i
    · rw [z]
      exact of_decide_eq_true e.1
    · exact pl_at k (i + 1) e.2 j (by omega) (by omega)
def pl_v (f : Nat → Int) (z most : Int) : Int := if z < 0 then 1 else if most < z then 5 else if pl_all f 0 z.toNat = true then 0 else 3
theorem pl_b (f : Nat → Int) (z most : Int) : 0 ≤ pl_v f z most ∧ pl_v f z most < 6 := by
  unfold pl_v
  repeat' split
  all_goals omega
section RGS25
variable {X : rf_X} {D : rf_D} {o n Z : Nat}
theorem rg_W_rp_39 (hr : rg_row o n) (hZ : D o 1 = (Z : Int)) (hn : Z ≤ n) (n1 : n ≤ 1000) (h6 : D 6 1 = 6) (d : Nat) : ∀ (k i : Nat), i + k = Z → rf_j_W_refusedPlan_39 (d + 3) 0 (some o) (i : Int) (hp X D) = (if pl_all (D (o + 1)) i k = true then some (some (.inl 0), hp X D) else some (some (.inl (-3)), hp X (wfd 3 D)))
  | 0, i, hk => by
    rw [rf_e_W_refusedPlan_39]
    try simp only [rg_row_gI hr, Int.reduceToNat, rg_kIs, rg_kLs, rg_kRs, rg_kVs, rg_nns, rg_bs, cond_true, cond_false]
    rw [hZ, if_neg (by omega), show pl_all (D (o + 1)) i 0 = true from rfl, if_pos (by decide)]
  | k + 1, i, hk => by
    have x2 : rf_w ((i : Int) + 1) = ((i + 1 : Nat) : Int) := by
      rw [rg_w (by omega) (by omega)]
      omega
    have ih := rg_W_rp_39 hr hZ hn n1 h6 d k (i + 1) (by omega)
    have c0 := rg_R_cellI (X := X) (D := D) hr (d + 2) (i := (i : Int)) (by omega) (by omega) (by omega)
    rw [rg_tN] at c0
    have e : pl_all (D (o + 1)) i (k + 1) = (pl_c (D (o + 1)) i && pl_all (D (o + 1)) (i + 1) k) := rfl
    rw [rf_e_W_refusedPlan_39]
    try simp only [rg_row_gI hr, Int.reduceToNat, rg_kIs, rg_kLs, rg_kRs, rg_kVs, rg_nns, rg_bs, cond_true, cond_false]
    rw [hZ, if_pos (by omega)]
    try simp only [rg_hp1, rg_row_o hr, Int.reduceToNat, rg_kIs, rg_kLs, rg_kRs, rg_kVs, rg_nns, rg_bs, cond_true, cond_false]
    rw [c0]
    try simp only [rg_hp1, rg_row_o hr, rg_o_0, Int.reduceToNat, rg_kIs, rg_kLs, rg_kRs, rg_kVs, rg_nns, rg_bs, cond_true, cond_false]
    by_cases a : D (o + 1) i < 0
    · have b : pl_c (D (o + 1)) i = false := decide_eq_false (fun q => by omega)
      rw [if_pos a, rg_W_found d (by decide) (by decide) h6, e, b, Bool.false_and, if_neg (by decide)]
      try simp only [Int.reduceToNat, rg_kIs, rg_kLs, rg_kRs, rg_kVs, rg_nns, rg_bs, cond_true, cond_false]
    · rw [if_neg a, c0]
      try simp only [rg_hp1, rg_row_o hr, rg_o_0, Int.reduceToNat, rg_kIs, rg_kLs, rg_kRs, rg_kVs, rg_nns, rg_bs, cond_true, cond_false]
      by_cases a2 : D (o + 1) i < 15
      · have b : pl_c (D (o + 1)) i = true := decide_eq_true (by omega)
        rw [if_pos a2, x2, e, b, Bool.true_and]
        exact ih
      · have b : pl_c (D (o + 1)) i = false := decide_eq_false (fun q => by omega)
        rw [if_neg a2, rg_W_found d (by decide) (by decide) h6, e, b, Bool.false_and, if_neg (by decide)]
        try simp only [Int.reduceToNat, rg_kIs, rg_kLs, rg_kRs, rg_kVs, rg_nns, rg_bs, cond_true, cond_false]
theorem rg_W_rp (hr : rg_row o n) (z1 : -1 ≤ D o 1) (hn : D o 1 ≤ (n : Int)) (n1 : n ≤ 1000) (h6 : D 6 1 = 6) (h12 : D 0 12 = 1) (d : Nat) (most : Int) : rf_call (d + 4) 88 [.inr (.inr (some 0)), .inr (.inr (some o)), .inl most] (hp X D) = some (if pl_v (D (o + 1)) (D o 1) most = 0 then (some (.inl 0), hp X D) else (some (.inl (-3)), hp X (wfd (pl_v (D (o + 1)) (D o 1) most) D))) := by
  rw [rf_e_W_refusedPlan]
  try simp only [rg_gI_0, Int.reduceToNat, rg_kIs, rg_kLs, rg_kRs, rg_kVs, rg_nns, rg_bs, cond_true, cond_false]
  rw [if_neg (by omega)]
  try simp only [rg_hp1, rg_row_o hr, Int.reduceToNat, rg_kIs, rg_kLs, rg_kRs, rg_kVs, rg_nns, rg_bs, cond_true, cond_false]
  rw [rg_R_isThere hr]
  try simp only [rg_hp1, rg_o_0, Int.reduceToNat, rg_kIs, rg_kLs, rg_kRs, rg_kVs, rg_nns, rg_bs, cond_true, cond_false]
  by_cases a : D o 1 < 0
  · have b : pl_v (D (o + 1)) (D o 1) most = 1 := if_pos a
    rw [if_pos a, if_pos (by decide), rg_W_found d (by decide) (by decide) h6, b, if_neg (by decide)]
    try simp only [Int.reduceToNat, rg_kIs, rg_kLs, rg_kRs, rg_kVs, rg_nns, rg_bs, cond_true, cond_false]
  · obtain ⟨Z, hZ⟩ := Int.eq_ofNat_of_zero_le (show 0 ≤ D o 1 by omega)
    rw [if_neg a, if_neg (by decide)]
    try simp only [rg_row_gI hr, Int.reduceToNat, rg_kIs, rg_kLs, rg_kRs, rg_kVs, rg_nns, rg_bs, cond_true, cond_false]
    rw [hZ]
    by_cases c : most < (Z : Int)
    · have b : pl_v (D (o + 1)) (Z : Int) most = 5 := by
        unfold pl_v
        rw [if_neg (by omega), if_pos c]
      rw [if_pos c, b, if_neg (by decide), rg_W_found d (by decide) (by decide) h6]
      try simp only [Int.reduceToNat, rg_kIs, rg_kLs, rg_kRs, rg_kVs, rg_nns, rg_bs, cond_true, cond_false]
    · have b : pl_v (D (o + 1)) (Z : Int) most = (if pl_all (D (o + 1)) 0 Z = true then 0 else 3) := by
        unfold pl_v
        rw [if_neg (by omega), if_neg c, rg_tN]
      have l := rg_W_rp_39 (X := X) hr hZ (by omega) n1 h6 d Z 0 (by omega)
      rw [show ((0 : Nat) : Int) = 0 from rfl] at l
      rw [if_neg c, l, b]
      by_cases g : pl_all (D (o + 1)) 0 Z = true
      · rw [if_pos g, if_pos g, if_pos (by decide)]
      · rw [if_neg g, if_neg g, if_neg (by decide)]
end RGS25
section RGS26
variable {X : rf_X} {D : rf_D} {R Z : Nat} {f : Nat → Int}
end RGS26
section RGS27
variable {X : rf_X} {D : rf_D} {A : Nat → Int} {W m : Int}
/-- some wagons stay -/
def sy_r (A : Nat → Int) (k : Int) : Nat → Int := rg_ui (rg_ui A 36 (A 36 - k)) 33 (if A 36 - k < A 33 then A 36 - k else A 33)
theorem sy_0 {A : Nat → Int} (h : A 33 ≤ A 36) : sy_r A 0 = A := by
  unfold sy_r
  rw [Int.sub_zero, rg_ui_i, if_neg (by omega), rg_ui_i]
theorem sy_st {k : Int} (hs : sp_st m A) (k0 : 0 ≤ k) (k1 : k ≤ A 36) : sp_st m (sy_r A k) := by
  obtain ⟨a1, a2, a3, a4, a5, a6, a7, a8, a9⟩ := hs
  refine ⟨a1, a2, a3, a4, a5, a6, ?_, a8, a9⟩
  show 0 ≤ (if A 36 - k < A 33 then A 36 - k else A 33) ∧ (if A 36 - k < A 33 then A 36 - k else A 33) ≤ A 36 - k ∧ A 36 - k ≤ 6
  split <;> omega
theorem sy_hd (k : Int) (j : Nat) (h : j < 27) : sy_r A k j = A j := by
  unfold sy_r
  rw [rg_ui_n (by omega), rg_ui_n (by omega)]
theorem rg_tr_76 : rg_tr 76 := rg_tr_70 (j := 6) (by decide)
theorem rg_W_aside (hT : TR (D 43) A 0) (hs : sp_st m A) (d : Nat) {k : Int} (k0 : 0 ≤ k) (k1 : k ≤ A 36) : ∃ f', rf_call (d + 2) 89 [.inr (.inr (some 0)), .inl k] (hp X D) = some (none, hp X (rg_up D 76 f')) ∧ TR f' (sy_r A k) (A 35) := by
  have z := hT.zo hs
  obtain ⟨f1, r1, r2⟩ := rg_T_becomes (X := X) (D := D) rg_tr_76 rg_tr_43 (by decide) d z.1 z.2.1 z.2.2
  obtain ⟨⟨t2, t3, t4⟩, ⟨t9, t10, t11⟩, t5, t8, t7, t6⟩ := hT
  have b33 := hs.2.2.2.2.2.2.1
  have xw : rf_w (A 36 - k) = A 36 - k := rg_w (by omega) (by omega)
  refine ⟨rg_ui (rg_ui (rg_ui f1 7 0) 6 (A 36 - k)) 5 (if A 36 - k < A 33 then A 36 - k else A 33), ?_, ?_⟩
  · rw [rf_e_W_stepAside]
    try simp only [rg_gR_0_10, rg_gR_0_11, rg_hp1, rg_tr_76.1, Int.reduceToNat, rg_kIs, rg_kLs, rg_kRs, rg_kVs, rg_nns, rg_bs, cond_true, cond_false]
    rw [r1]
    try simp only [rg_gR_0_10, rg_gR_0_11, rg_T_pI rg_tr_76, rg_T_gI rg_tr_43, rg_T_gI rg_tr_76, Int.reduceToNat, rg_kIs, rg_kLs, rg_kRs, rg_kVs, rg_nns, rg_bs, cond_true, cond_false]
    rw [rg_up_s, rg_up_u, rg_up_n (show (43 : Nat) ≠ 76 by decide), t6, xw, rg_J_max]
    have e1 : (if 0 < A 36 - k then A 36 - k else 0) = A 36 - k := by
      split <;> omega
    try simp only [Int.reduceToNat, rg_kIs, rg_kLs, rg_kRs, rg_kVs, rg_nns, rg_bs, cond_true, cond_false]
    rw [e1]
    try simp only [rg_gR_0_10, rg_gR_0_11, rg_T_pI rg_tr_76, rg_T_gI rg_tr_43, rg_T_gI rg_tr_76, Int.reduceToNat, rg_kIs, rg_kLs, rg_kRs, rg_kVs, rg_nns, rg_bs, cond_true, cond_false]
    rw [rg_up_s, rg_up_u, rg_up_n (show (43 : Nat) ≠ 76 by decide), t5, rg_up_s, rg_ui_s, rg_J_min]
    try simp only [rg_gR_0_10, rg_gR_0_11, rg_T_pI rg_tr_76, rg_T_gI rg_tr_43, rg_T_gI rg_tr_76, Int.reduceToNat, rg_kIs, rg_kLs, rg_kRs, rg_kVs, rg_nns, rg_bs, cond_true, cond_false]
    rw [rg_up_s, rg_up_u]
  · refine ⟨⟨?_, ?_, ?_⟩, ⟨?_, ?_, ?_⟩, ?_, ?_, ?_, ?_⟩
    · show f1 2 = A 27
      rw [r2 2 (by decide) (by decide), t2]
    · show f1 3 = A 28
      rw [r2 3 (by decide) (by decide), t3]
    · show f1 4 = A 29
      rw [r2 4 (by decide) (by decide), t4]
    · show f1 9 = A 30
      rw [r2 9 (by decide) (by decide), t9]
    · show f1 10 = A 31
      rw [r2 10 (by decide) (by decide), t10]
    · show f1 11 = 1 - A 32
      rw [r2 11 (by decide) (by decide), t11]
    · rfl
    · show f1 8 = A 34
      rw [r2 8 (by decide) (by decide), t8]
    · show (0 : Int) = A 35 - A 35
      omega
    · rfl
/-- things done aside, those that can't be passed over -/
def rn_s (s f : Nat → Int) : Nat → (Nat → Int)
  | 0 => s
  | k + 1 => if sp_can (rn_s s f k) (f k) = true then (sp_does (rn_s s f k) (f k) (sp_rail (rn_s s f k))).2 else rn_s s f k
theorem rn_hd {s f : Nat → Int} : ∀ (k j : Nat), j < 27 → rn_s s f k j = s j
  | 0, _, _ => rfl
  | k + 1, j, h => by
    show (if sp_can (rn_s s f k) (f k) = true then (sp_does (rn_s s f k) (f k) (sp_rail (rn_s s f k))).2 else rn_s s f k) j = s j
    split
    · rw [sp_does_hd _ _ _ _ h, rn_hd k j h]
    · exact rn_hd k j h
theorem sp_st_up {s : Nat → Int} {a b : Int} (h : sp_st a s) (e : a ≤ b) : sp_st b s := by
  obtain ⟨a1, a2, a3, a4, a5, a6, a7, a8, a9⟩ := h
  exact ⟨a1, ⟨by omega, a2.2⟩, a3, a4, a5, a6, a7, ⟨a8.1, by omega⟩, a9.1, by omega⟩
theorem rn_st {s f : Nat → Int} {W : Int} (hs : sp_st m s) (hm : 0 ≤ m ∧ m ≤ 1000) (hW : s 36 ≤ W) : ∀ (k : Nat), k ≤ 1000 → sp_st (m + (k : Int)) (rn_s s f k) ∧ rn_s s f k 36 ≤ W
  | 0, _ => ⟨sp_st_up hs (by omega), hW⟩
  | k + 1, h => by
    obtain ⟨i1, i2⟩ := rn_st (f := f) hs hm hW k (by omega)
    show sp_st (m + ((k + 1 : Nat) : Int)) (if sp_can (rn_s s f k) (f k) = true then (sp_does (rn_s s f k) (f k) (sp_rail (rn_s s f k))).2 else rn_s s f k) ∧ (if sp_can (rn_s s f k) (f k) = true then (sp_does (rn_s s f k) (f k) (sp_rail (rn_s s f k))).2 else rn_s s f k) 36 ≤ W
    split
    · exact ⟨sp_st_up (sp_does_st i1 (by omega) (f k) (sp_rail (rn_s s f k))).1 (by omega), Int.le_trans (sp_does_36 i1 (f k) (sp_rail (rn_s s f k))) i2⟩
    · exact ⟨sp_st_up i1 (by omega), i2⟩
theorem rg_W_run_37 {o n Z : Nat} (hr : rg_row o n) (ho : o + 1 < 76 ∧ 42 < o) (hn : Z ≤ n) (n1 : n ≤ 1000) {f s : Nat → Int} {g : Int} (hd : sp_hd s) (hs : sp_st m s) (hm : 0 ≤ m ∧ m ≤ 1000) (hW : s 36 ≤ W) (hg : 0 ≤ g ∧ g ≤ 1000000) (hf : ∀ j, j < Z → 0 ≤ f j ∧ f j < 15) (d : Nat) : ∀ (k i : Nat) (D : rf_D), i + k = Z → CR D 28 s W → TR (D 76) (rn_s s f i) g → D o 1 = (Z : Int) → (∀ j, j < Z → D (o + 1) j = f j) → ∃ f', rf_j_W_run_37 (d + 7) 0 (some o) (i : Int) (hp X D) = some (some (.inl (rn_s s f Z 35 - g)), hp X (wtl (rn_s s f Z 36) (rg_up D 76 f')))
  | 0, i, D, hk, hC, hT, hZ, hF => by
    have iZ : i = Z := by omega
    subst iZ
    refine ⟨D 76, ?_⟩
    rw [rf_e_W_run_37]
    try simp only [rg_row_gI hr, Int.reduceToNat, rg_kIs, rg_kLs, rg_kRs, rg_kVs, rg_nns, rg_bs, cond_true, cond_false]
    rw [hZ, if_neg (by omega)]
    try simp only [rg_gR_0_11, rg_T_gI rg_tr_76, rg_hp1, rg_o_0, Int.reduceToNat, rg_kIs, rg_kLs, rg_kRs, rg_kVs, rg_nns, rg_bs, cond_true, cond_false]
    rw [rg_W_tell, hT.2.2.2.2.2, hT.2.2.2.2.1, rg_up_i]
    try simp only [Int.reduceToNat, rg_kIs, rg_kLs, rg_kRs, rg_kVs, rg_nns, rg_bs, cond_true, cond_false]
  | k + 1, i, D, hk, hC, hT, hZ, hF => by
    have c := rn_st (f := f) hs hm hW i (by omega)
    have hh : ∀ j, j < 27 → rn_s s f i j = s j := fun j hj => rn_hd i j hj
    have hdS := sp_hd_of hd hh
    have z1 : 1 ≤ s 2 ∧ s 2 ≤ 6 := hd.2.2.1
    have hCS := hC.ofs z1.2 hh
    have fb := hf i (by omega)
    have c0 := rg_R_cellI (X := X) (D := D) hr (d + 6) (i := (i : Int)) (by omega) (by omega) (by omega)
    rw [rg_tN, hF i (by omega)] at c0
    have yi : i ≤ 1000 := by omega
    have cb := rg_T_canBe (X := X) (D := D) rg_tr_76 hT c.1 (d + 6) fb.1 (by omega)
    have w1 := rg_T_rail (X := X) (D := D) rg_tr_76 hCS hdS c.1 (by omega) (d + 4) hT.2.2.2.1
    have rl := sp_rail_02 hdS c.1
    obtain ⟨f1, w2, w3⟩ := rg_T_does (X := X) (D := D) rg_tr_76 hCS hdS hT c.1 (by omega) hg c.2 (d + 2) fb.1 (by omega) (fun _ => rl)
    have e : rn_s s f (i + 1) = (if sp_can (rn_s s f i) (f i) = true then (sp_does (rn_s s f i) (f i) (sp_rail (rn_s s f i))).2 else rn_s s f i) := rfl
    rw [rf_e_W_run_37]
    try simp only [rg_row_gI hr, Int.reduceToNat, rg_kIs, rg_kLs, rg_kRs, rg_kVs, rg_nns, rg_bs, cond_true, cond_false]
    rw [hZ, if_pos (by omega)]
    try simp only [rg_hp1, rg_row_o hr, Int.reduceToNat, rg_kIs, rg_kLs, rg_kRs, rg_kVs, rg_nns, rg_bs, cond_true, cond_false]
    rw [c0]
    try simp only [rg_gR_0_11, rg_hp1, rg_tr_76.1, Int.reduceToNat, rg_kIs, rg_kLs, rg_kRs, rg_kVs, rg_nns, rg_bs, cond_true, cond_false]
    rw [cb]
    try simp only [Int.reduceToNat, rg_kIs, rg_kLs, rg_kRs, rg_kVs, rg_nns, rg_bs, cond_true, cond_false, xs_1 yi]
    by_cases y : sp_can (rn_s s f i) (f i) = true
    · rw [if_pos y] at e
      obtain ⟨f', q⟩ := rg_W_run_37 hr ho hn n1 hd hs hm hW hg hf d k (i + 1) (rg_up D 76 f1) (by omega) (hC.up (by omega)) (by rw [rg_up_s, e]; exact w3) (by rw [rg_up_n (by omega)]; exact hZ) (fun j hj => by rw [rg_up_n (by omega)]; exact hF j hj)
      rw [rg_up_u] at q
      refine ⟨f', ?_⟩
      rw [if_pos y, if_neg (by decide)]
      try simp only [rg_gR_0_11, rg_hp1, rg_tr_76.1, Int.reduceToNat, rg_kIs, rg_kLs, rg_kRs, rg_kVs, rg_nns, rg_bs, cond_true, cond_false]
      rw [w1]
      try simp only [rg_gR_0_11, rg_hp1, rg_tr_76.1, Int.reduceToNat, rg_kIs, rg_kLs, rg_kRs, rg_kVs, rg_nns, rg_bs, cond_true, cond_false]
      rw [w2]
      try simp only [Int.reduceToNat, rg_kIs, rg_kLs, rg_kRs, rg_kVs, rg_nns, rg_bs, cond_true, cond_false]
      exact q
    · rw [if_neg y] at e
      obtain ⟨f', q⟩ := rg_W_run_37 hr ho hn n1 hd hs hm hW hg hf d k (i + 1) D (by omega) hC (by rw [e]; exact hT) hZ hF
      refine ⟨f', ?_⟩
      rw [if_neg y, if_pos (by decide)]
      exact q
end RGS27
section RGS28
variable {X : rf_X} {D : rf_D}
end RGS28
