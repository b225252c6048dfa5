/-! The book; tries; a text that is read. -/
theorem pq_bkok {f : Nat → Int} {T : Nat} (hf : ∀ i, i < 3 * T → 0 ≤ f i ∧ f i ≤ (if i % 3 = 0 then 2 else if i % 3 = 1 then 9 else 1)) : bo_v f ((3 * T : Nat) : Int) = 0 := by
  have key : ∀ (k i : Nat), i + k ≤ 3 * T → bk_all f i k = true := by
    intro k
    induction k with
    | zero => intro i _; rfl
    | succ k ih =>
      intro i h
      have a := ih (i + 1) (by omega)
      have b := hf i (by omega)
      show (bk_c f i && bk_all f (i + 1) k) = true
      rw [a, show bk_c f i = true from decide_eq_true b]
      rfl
  unfold bo_v
  rw [if_neg (by omega), if_pos (by omega), if_pos (key _ 0 (by omega))]
section PQD
variable {X : rf_X} {D : rf_D}
theorem pq_weights {R T : Nat} (hR : R < 6) (hT : T ≤ 13) (h6 : D 6 1 = 6) (hZ : D (44 + 2 * R) 1 = ((3 * T : Nat) : Int)) (hf : ∀ i, i < 3 * T → 0 ≤ D (44 + 2 * R + 1) i ∧ D (44 + 2 * R + 1) i ≤ (if i % 3 = 0 then 2 else if i % 3 = 1 then 9 else 1)) (d : Nat) : rf_call (d + 8) 97 [.inr (.inr (some 0)), .inl (R : Int)] (hp X D) = some (some (.inl (wt_v (D (44 + 2 * R + 1)) T 9)), hp X D) := by
  have row := rg_rowN (X := X) (D := D) hR
  have wb := rg_W_rb (X := X) (D := D) row.1 (by omega) (by omega) (by decide) h6 (d + 3)
  have l1 := rg_W_wts_33 (X := X) row.1 hZ (by omega) (by decide) (d + 3) 9 0 (by decide)
  rw [show wt_v (D (44 + 2 * R + 1)) T 0 = 0 from rfl, show ((0 + 1 : Nat) : Int) = 1 from rfl] at l1
  rw [hZ, if_pos (pq_bkok hf)] at wb
  rw [rf_e_W_weights]
  try simp only [rg_gR_0_0, Int.reduceToNat, rg_kIs, rg_kLs, rg_kRs, rg_kVs, rg_nns, rg_bs, cond_true, cond_false]
  rw [rg_W_pick_y (n := 6) (d + 6) (rg_aL_1 X D) (by omega) row.2]
  try simp only [rg_hp1, rg_o_0, rg_row_o row.1, rg_nzs, Int.reduceToNat, rg_kIs, rg_kLs, rg_kRs, rg_kVs, rg_nns, rg_bs, cond_true, cond_false]
  rw [wb]
  try simp only [Int.reduceToNat, rg_kIs, rg_kLs, rg_kRs, rg_kVs, rg_nns, rg_bs, cond_true, cond_false]
  rw [if_pos (by decide)]
  exact l1
theorem pq_lies {R T : Nat} (hR : R < 6) (hT : T ≤ 13) (h6 : D 6 1 = 6) (hZ : D (44 + 2 * R) 1 = ((3 * T : Nat) : Int)) (hf : ∀ i, i < 3 * T → 0 ≤ D (44 + 2 * R + 1) i ∧ D (44 + 2 * R + 1) i ≤ (if i % 3 = 0 then 2 else if i % 3 = 1 then 9 else 1)) {w : Int} (w1 : 1 ≤ w) (w9 : w ≤ 9) (d : Nat) : rf_call (d + 8) 102 [.inr (.inr (some 0)), .inl (R : Int), .inl w] (hp X D) = some (some (.inl (ct_v (D (44 + 2 * R + 1)) w T)), hp X (wtl (fi_v (D (44 + 2 * R + 1)) w T) D)) := by
  have row := rg_rowN (X := X) (D := D) hR
  have wb := rg_W_rb (X := X) (D := D) row.1 (by omega) (by omega) (by decide) h6 (d + 3)
  have l1 := rg_W_lies_44 (X := X) row.1 hZ (by omega) (by decide) (d + 3) w T 0 (by omega) rfl
  rw [show ((0 : Nat) : Int) = 0 from rfl] at l1
  rw [hZ, if_pos (pq_bkok hf)] at wb
  rw [rf_e_W_lies]
  try simp only [rg_gR_0_0, Int.reduceToNat, rg_kIs, rg_kLs, rg_kRs, rg_kVs, rg_nns, rg_bs, cond_true, cond_false]
  rw [rg_W_pick_y (n := 6) (d + 6) (rg_aL_1 X D) (by omega) row.2]
  try simp only [rg_hp1, rg_o_0, rg_row_o row.1, rg_nzs, Int.reduceToNat, rg_kIs, rg_kLs, rg_kRs, rg_kVs, rg_nns, rg_bs, cond_true, cond_false]
  rw [if_neg (by omega), if_neg (by omega)]
  rw [wb]
  try simp only [Int.reduceToNat, rg_kIs, rg_kLs, rg_kRs, rg_kVs, rg_nns, rg_bs, cond_true, cond_false]
  rw [if_pos (by decide)]
  exact l1
theorem pq_trial {set rail : Int} (hset : I32 set) (s0 : ¬ set = 0) (s1 : rf_and set (-1023) = 0) (r0 : 0 ≤ rail) (r2 : rail ≤ 2) (d : Nat) : rf_call (d + 8) 103 [.inr (.inr (some 0)), .inl set, .inl rail] (hp X D) = some (some (.inl (tr_v set rail 9).1), hp X (wtl (tr_v set rail 9).2 D)) := by
  obtain ⟨k, k1, k2⟩ := an_k hset s1
  have bc := bc_all k1
  rw [← k2] at bc
  have b0 := sg_b set rail 0 (k := 9) (by decide)
  have z0 := sl_0 (set := set) r0 r2 (k := 9) (by decide)
  have w1 := rg_W_tr_37 (X := X) (D := D) (d + 5) set rail 9 0 (by decide)
  have t1 : (tr_v set rail 0).1 = 0 := rfl
  have t2 : (tr_v set rail 0).2 = pc_v set 9 := rfl
  rw [t1, t2, show ((0 + 1 : Nat) : Int) = 1 from rfl] at w1
  have lw := rg_W_tr_50 (X := X) (D := D) (d + 5) set rail (pc_v set 9) 0 (pc_v set 9) 0 9 0 (by decide)
  rw [show sl_n set rail 0 0 = 0 from rfl, show ((0 + 1 : Nat) : Int) = 1 from rfl] at lw
  rw [rf_e_W_trial, if_neg s0, if_pos s1, if_neg (by omega), if_neg (by omega), rg_J_bc, bc]
  try simp only [Int.reduceToNat, rg_kIs, rg_kLs, rg_kRs, rg_kVs, rg_nns, rg_bs, cond_true, cond_false]
  rw [rf_e_W_trial_37, if_neg (by decide)]
  refine lw.trans ?_
  rw [rf_e_W_trial_50, if_pos (by decide), rg_J_max]
  try simp only [Int.reduceToNat, rg_kIs, rg_kLs, rg_kRs, rg_kVs, rg_nns, rg_bs, cond_true, cond_false]
  have em : (if sl_n set rail 0 9 < rf_w (pc_v set 9 - sl_n set rail 0 9) then rf_w (pc_v set 9 - sl_n set rail 0 9) else sl_n set rail 0 9) = pc_v set 9 := by
    rw [rg_w (z := pc_v set 9 - sl_n set rail 0 9) (by omega) (by omega), z0]
    split <;> omega
  rw [em, if_neg (by omega), show rf_w (0 + 1) = 1 from rfl]
  exact w1
/-- the row that a text is read into -/
def pq_g0 : Nat → Int := ps_g0 (fun _ => 0)
theorem pq_fault (hX : XL X) {Z : Nat} (hZ : D 56 1 = (Z : Int)) (Z60 : Z ≤ 60) (hb : ∀ k, k < Z → -128 ≤ D 57 k ∧ D 57 k ≤ 127) (ok : (ps_all (D 57) Z pq_g0).1 = true) (d : Nat) : ∃ D', rf_call (d + 8) 67 [.inr (.inr (some 0)), .inl 0] (hp X D) = some (some (.inl (-9)), hp X D') ∧ ∀ a, (a < 12 ∨ 27 < a) → D' a = D a := by
  have row := rg_textN (X := X) (D := D) (R := 0) (by decide)
  rw [show ((0 : Nat) : Int) = 0 from rfl] at row
  obtain ⟨E, e1, e2, -⟩ := rg_E_faultOf hX rg_con_13 (Or.inl rfl) row.1 (by omega) (n := Z) (by omega) (x := D 57) hb (d + 1) (D := D) pq_g0 (ps_g0_PI _) rfl rfl (fun _ _ => rfl) hZ
  rw [if_pos ok] at e1
  refine ⟨E, ?_, fun a h => e2 a (by omega) (by omega)⟩
  rw [rf_e_W_fault]
  try simp only [rg_gR_0_1, Int.reduceToNat, rg_kIs, rg_kLs, rg_kRs, rg_kVs, rg_nns, rg_bs, cond_true, cond_false]
  rw [rg_W_pick_y (n := 4) (d + 6) (rg_aL_2 X D) (by decide) row.2]
  try simp only [rg_hp1, rg_o_0, rg_row_o row.1, rg_nzs, Int.reduceToNat, rg_kIs, rg_kLs, rg_kRs, rg_kVs, rg_nns, rg_bs, cond_true, cond_false]
  rw [rg_R_isThere row.1]
  try simp only [Int.reduceToNat, rg_kIs, rg_kLs, rg_kRs, rg_kVs, rg_nns, rg_bs, cond_true, cond_false]
  rw [if_neg (show ¬ D (56 + 2 * 0) 1 < 0 by rw [show (56 + 2 * 0 : Nat) = 56 from rfl, hZ]; omega), if_neg (by decide)]
  try simp only [rg_gR_0_7, rg_gR_0_8, rg_hp1, rg_o_12, Int.reduceToNat, rg_kIs, rg_kLs, rg_kRs, rg_kVs, rg_nns, rg_bs, cond_true, cond_false]
  rw [e1]
  try simp only [Int.reduceToNat, rg_kIs, rg_kLs, rg_kRs, rg_kVs, rg_nns, rg_bs, cond_true, cond_false]
theorem pq_train (hX : XL X) (hS : pq_TS D) {Z : Nat} (hZ : D 56 1 = (Z : Int)) (Z60 : Z ≤ 60) (hb : ∀ k, k < Z → -128 ≤ D 57 k ∧ D 57 k ≤ 127) (ok : (ps_all (D 57) Z pq_g0).1 = true) {G : Nat → Int} (hG : G = (ps_all (D 57) Z pq_g0).2.2) (d : Nat) : ∃ D', rf_call (d + 8) 68 [.inr (.inr (some 0)), .inl 0] (hp X D) = some (some (.inl (G 36)), hp X D') ∧ pq_DS D' G (G 27) (G 28) (G 36) 0 ∧ ∀ a, (a = 0 ∨ a = 4 ∨ a = 5 ∨ (11 < a ∧ a < 44) ∨ (63 < a ∧ a < 70)) ∨ D' a = D a := by
  have row := rg_textN (X := X) (D := D) (R := 0) (by decide)
  rw [show ((0 : Nat) : Int) = 0 from rfl] at row
  obtain ⟨E, e1, e2, -⟩ := rg_E_faultOf hX rg_con_13 (Or.inl rfl) row.1 (by omega) (n := Z) (by omega) (x := D 57) hb (d + 1) (D := D) pq_g0 (ps_g0_PI _) rfl rfl (fun _ _ => rfl) hZ
  have En : ∀ a, (a < 12 ∨ 27 < a) → E a = D a := fun a h => e2 a (by omega) (by omega)
  obtain ⟨E2, f1, f2, f3⟩ := rg_E_faultOf hX rg_con_28 (Or.inr rfl) row.1 (by omega) (n := Z) (by omega) (x := D 57) hb (d + 1) (D := E) pq_g0 (ps_g0_PI _) rfl rfl (fun k _ => by rw [En (56 + 2 * 0 + 1) (by omega)]) (by rw [En (56 + 2 * 0) (by omega)]; exact hZ)
  rw [if_pos ok] at e1 f1
  obtain ⟨cr, ce⟩ := f3 ok
  obtain ⟨P, P0, P2⟩ := ps_ok (g := pq_g0) (ps_g0_PI _) ok
  rw [← hG] at cr ce P P0 P2
  clear f3
  have E2n : ∀ a, (a < 12 ∨ 42 < a) → E2 a = D a := fun a h => by rw [f2 a (by omega) (by omega), En a (by omega)]
  have hdG := P.hd P0 P2
  have w31 : E2 31 1 = G 36 := cr.2.2.1.1
  obtain ⟨D3, hD3⟩ : ∃ D3, D3 = rg_up E2 0 (rg_ui (E2 0) 12 1) := ⟨_, rfl⟩
  have D3n : ∀ a, a ≠ 0 → D3 a = E2 a := fun a y => by rw [hD3, rg_up_n y]
  obtain ⟨D4, r1, r2, r3, -⟩ := rg_R_renewE (X := X) (D := D3) rg_row_4 (d + 4) (z := 0) (f := 0) (by decide) (by decide) (by decide)
  obtain ⟨D5, t1, t2, t3, -⟩ := rg_W_train_77 (X := X) d 3 0 D4 (by decide)
  have D5n : ∀ a, a ≠ 0 → a ≠ 4 → a ≠ 5 → (a < 64 ∨ 69 < a) → D5 a = E2 a := fun a y1 y2 y3 y4 => by rw [t2 a y4, r2 a y2 y3, D3n a y1]
  have D54 : D5 4 1 = 0 := by rw [t2 4 (by decide)]; exact r3
  have D528 : D5 28 = E2 28 := D5n 28 (by decide) (by decide) (by decide) (by decide)
  have D531 : D5 31 1 = G 36 := by rw [D5n 31 (by decide) (by decide) (by decide) (by decide), w31]
  have cr5 : CR D5 28 G (D5 31 1) := by
    rw [D531]
    exact cr.of fun a y1 y2 => D5n a (by omega) (by omega) (by omega) (by omega)
  have a8 : 0 ≤ D5 28 8 ∧ D5 28 8 ≤ 9 := by rw [D528, ce.2.1]; exact P 27 (by decide)
  have a9 : 0 ≤ D5 28 9 ∧ D5 28 9 ≤ 9 := by rw [D528, ce.2.2.1]; exact P 28 (by decide)
  have DE0 : DE (D5 5) 0 := ⟨by decide, fun k hk => by omega⟩
  obtain ⟨f', b1, b2⟩ := rg_W_anew (X := X) (D := D5) d (A := G) (m := 0) hdG a8 a9 cr5 D54 DE0
  obtain ⟨D6, hD6⟩ : ∃ D6, D6 = rg_up D5 43 f' := ⟨_, rfl⟩
  have D6n : ∀ a, a ≠ 43 → D6 a = D5 a := fun a y => by rw [hD6, rg_up_n y]
  have D6D : ∀ a, a ≠ 0 → a ≠ 4 → a ≠ 5 → (a < 12 ∨ 43 < a) → (a < 64 ∨ 69 < a) → D6 a = D a := fun a y1 y2 y3 y4 y5 => by rw [D6n a (by omega), D5n a y1 y2 y3 y5, E2n a (by omega)]
  have f6 : f' 6 = G 36 := by
    rw [b2.2.2.2.2.2]
    exact D531
  rw [show ((0 : Nat) : Int) = 0 from rfl] at t1
  have c8 : D5 28 8 = G 27 := by rw [D528]; exact ce.2.1
  have c9 : D5 28 9 = G 28 := by rw [D528]; exact ce.2.2.1
  refine ⟨D6, ?_, ⟨?_, ?_, hdG, ?_, ⟨?_, ?_, ?_⟩, ?_, ?_, ?_, ?_, ?_⟩, fun a => ?_⟩
  · rw [rf_e_W_train]
    try simp only [rg_gR_0_1, Int.reduceToNat, rg_kIs, rg_kLs, rg_kRs, rg_kVs, rg_nns, rg_bs, cond_true, cond_false]
    rw [rg_W_pick_y (n := 4) (d + 6) (rg_aL_2 X D) (by decide) row.2]
    try simp only [rg_hp1, rg_o_0, rg_row_o row.1, rg_nzs, Int.reduceToNat, rg_kIs, rg_kLs, rg_kRs, rg_kVs, rg_nns, rg_bs, cond_true, cond_false]
    rw [rg_R_isThere row.1]
    try simp only [Int.reduceToNat, rg_kIs, rg_kLs, rg_kRs, rg_kVs, rg_nns, rg_bs, cond_true, cond_false]
    rw [if_neg (show ¬ D (56 + 2 * 0) 1 < 0 by rw [show (56 + 2 * 0 : Nat) = 56 from rfl, hZ]; omega), if_neg (by decide)]
    try simp only [rg_gR_0_7, rg_gR_0_8, rg_hp1, rg_o_12, Int.reduceToNat, rg_kIs, rg_kLs, rg_kRs, rg_kVs, rg_nns, rg_bs, cond_true, cond_false]
    rw [e1]
    try simp only [Int.reduceToNat, rg_kIs, rg_kLs, rg_kRs, rg_kVs, rg_nns, rg_bs, cond_true, cond_false]
    rw [if_pos (by decide)]
    try simp only [rg_gR_0_7, rg_gR_0_9, rg_hp1, rg_o_12, Int.reduceToNat, rg_kIs, rg_kLs, rg_kRs, rg_kVs, rg_nns, rg_bs, cond_true, cond_false]
    rw [f1]
    try simp only [rg_pI_0, Int.reduceToNat, rg_kIs, rg_kLs, rg_kRs, rg_kVs, rg_nns, rg_bs, cond_true, cond_false]
    rw [← hD3]
    try simp only [rg_gR_0_3, rg_hp1, rg_row_o rg_row_4, Int.reduceToNat, rg_kIs, rg_kLs, rg_kRs, rg_kVs, rg_nns, rg_bs, cond_true, cond_false]
    rw [r1]
    try simp only [Int.reduceToNat, rg_kIs, rg_kLs, rg_kRs, rg_kVs, rg_nns, rg_bs, cond_true, cond_false]
    rw [t1, rf_e_W_train_77, if_neg (by decide)]
    try simp only [rg_hp1, rg_o_0, Int.reduceToNat, rg_kIs, rg_kLs, rg_kRs, rg_kVs, rg_nns, rg_bs, cond_true, cond_false]
    rw [b1]
    try simp only [rg_gR_0_10, rg_T_gI rg_tr_43, Int.reduceToNat, rg_kIs, rg_kLs, rg_kRs, rg_kVs, rg_nns, rg_bs, cond_true, cond_false]
    rw [← hD6, hD6, rg_up_s, f6]
  · unfold pq_TS
    rw [D6D 6 (by decide) (by decide) (by decide) (by decide) (by decide), D6D 8 (by decide) (by decide) (by decide) (by decide) (by decide), D6D 10 (by decide) (by decide) (by decide) (by decide) (by decide)]
    exact hS
  · rw [D6n 0 (by decide), t2 0 (by decide), r2 0 (by decide) (by decide), hD3, rg_up_s, rg_ui_s]
  · rw [D531] at cr5
    exact cr5.of fun a _ _ => D6n a (by omega)
  · rw [D6n 31 (by decide)]
    exact D531
  · rw [D6n 28 (by decide)]
    exact c8
  · rw [D6n 28 (by decide)]
    exact c9
  · rw [← c8]
    exact a8
  · rw [← c9]
    exact a9
  · rw [D6n 4 (by decide)]
    exact D54
  · rw [D6n 5 (by decide)]
    exact DE0
  · rw [D531, c8, c9] at b2
    rw [D6n 5 (by decide), hD6, rg_up_s]
    exact b2
  · by_cases z : a = 0 ∨ a = 4 ∨ a = 5 ∨ (11 < a ∧ a < 44) ∨ (63 < a ∧ a < 70)
    · exact Or.inl z
    · exact Or.inr (D6D a (by omega) (by omega) (by omega) (by omega) (by omega))
end PQD
