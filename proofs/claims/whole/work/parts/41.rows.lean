/-! Rows and texts: class and reference answer alike, and the invariant stays. -/
def Ag (X : rf_X) (D : rf_D) (d u v : Nat) (as : List rf_V) : Prop := ∃ y D1 D2, rf_call d u (.inr (.inr (some 0)) :: as) (hp X D) = some (some (.inl y), hp X D1) ∧ rf_call d v (.inr (.inr (some 77)) :: as) (hp X D1) = some (some (.inl y), hp X D2) ∧ Inv D2
theorem rg_nzs (k : Nat) (A B : Option rf_R) : rf_nz (some k) A B = B := rfl
theorem rg_nzn (A B : Option rf_R) : rf_nz none A B = A := rfl
theorem rg_tN (n : Nat) : ((n : Int)).toNat = n := by omega
theorem rg_tl0 {D : rf_D} {k : Nat} (h : k ≠ 0) {f : Nat → Int} {v : Int} : rg_up (wtl v D) k f = wtl v (rg_up D k f) := by
  unfold wtl
  rw [rg_up_c h.symm, rg_up_n h.symm]
theorem wtl_n {D : rf_D} {v : Int} {k : Nat} (h : k ≠ 0) : wtl v D k = D k := rg_up_n h
section RGS2
variable {X : rf_X} {D : rf_D}

theorem rg_rowN {R : Nat} (h : R < 6) : rg_row (44 + 2 * R) 40 ∧ rf_aR (hp X D) 1 (R : Int) = some (some (44 + 2 * R)) := by
  have e := rg_row_rows (X := X) (D := D) (i := (R : Int)) (by omega) (by omega)
  rw [rg_tN] at e
  exact e
theorem Inv.rowchg {D D' : rf_D} (hI : Inv D) {R : Nat} (hR : R < 6) (fr : ∀ a, a ≠ 44 + 2 * R → a ≠ 44 + 2 * R + 1 → a ≠ 78 → a ≠ 79 → D' a = D a) (hS : ∀ q, q ≠ R → D' 78 q = D 78 q) (hC : ∀ k, (k < 40 * R ∨ 40 * R + 40 ≤ k) → D' 79 k = D 79 k) (hr : D' 78 R = D' (44 + 2 * R) 1 ∧ -1 ≤ D' (44 + 2 * R) 1 ∧ D' (44 + 2 * R) 1 ≤ 40 ∧ ∀ j : Nat, (j : Int) < D' (44 + 2 * R) 1 → D' 79 (40 * R + j) = D' (44 + 2 * R + 1) j ∧ (False → -128 ≤ D' (44 + 2 * R + 1) j ∧ D' (44 + 2 * R + 1) j ≤ 127)) : Inv D' := by
  obtain ⟨h1, h2, h3, h4, h5⟩ := hI
  have e : ∀ a, (a < 44 ∨ 44 + 2 * 6 ≤ a) → a ≠ 78 → a ≠ 79 → D' a = D a := fun a z1 z2 z3 => fr a (by omega) (by omega) z2 z3
  refine ⟨h1.set R (fun q _ z => hS q z) (fun q j hq z hj => hC _ (by omega)) (fun q hq z => ⟨fr _ (by omega) (by omega) (by omega) (by omega), fr _ (by omega) (by omega) (by omega) (by omega)⟩) hr, h2.of (e _ (by decide) (by decide) (by decide)) (e _ (by decide) (by decide) (by decide)) fun k z1 z2 => e k (by omega) (by omega) (by omega), ?_, ?_, ?_⟩
  · exact h3.of (e 85 (by omega) (by omega) (by omega)) (e 7 (by omega) (by omega) (by omega)) (e 6 (by omega) (by omega) (by omega)) (by rw [e 77 (by omega) (by omega) (by omega)]) (by rw [e 0 (by omega) (by omega) (by omega)]) (by rw [e 77 (by omega) (by omega) (by omega), e 0 (by omega) (by omega) (by omega)]; exact h3.2.2.2.1) (by rw [e 77 (by omega) (by omega) (by omega)]) (by rw [e 0 (by omega) (by omega) (by omega)]) (by rw [e 77 (by omega) (by omega) (by omega)]) (by rw [e 0 (by omega) (by omega) (by omega)])
  · exact h4.of (e 8 (by omega) (by omega) (by omega)) (e 10 (by omega) (by omega) (by omega))
  · exact h5.of (by rw [e 0 (by omega) (by omega) (by omega)]) fun a z => e a (by omega) (by omega) (by omega)
theorem rg_M_row_34 (d : Nat) {R N : Nat} (hR : R < 6) (hN : N ≤ 40) : ∀ (k i : Nat) (D : rf_D), i + k = N → rf_j_M_row_34 d 77 (R : Int) (N : Int) (i : Int) (hp X D) = some (some (.inl (N : Int)), hp X (rg_up D 79 (fun j => if 40 * R + i ≤ j ∧ j < 40 * R + N then 0 else D 79 j)))
  | 0, i, D, hk => by
    rw [rf_e_M_row_34, if_neg (by omega)]
    have e : (fun j => if 40 * R + i ≤ j ∧ j < 40 * R + N then 0 else D 79 j) = D 79 := by
      funext j
      rw [if_neg (by omega)]
    rw [e, rg_up_i]
  | k + 1, i, D, hk => by
    have x1 : rf_w (rf_w (40 * (R : Int)) + (i : Int)) = ((40 * R + i : Nat) : Int) := by
      rw [rg_w (z := 40 * (R : Int)) (by omega) (by omega), rg_w (by omega) (by omega)]
      omega
    have x2 : rf_w ((i : Int) + 1) = ((i + 1 : Nat) : Int) := by
      rw [rg_w (by omega) (by omega)]
      omega
    rw [rf_e_M_row_34, if_pos (by omega)]
    simp only [rg_gR_77_1, Int.reduceToNat, rg_kIs, rg_kLs, rg_kRs, rg_kVs, rg_nns, rg_bs, cond_true, cond_false, x1, x2]
    rw [rg_sI_79 (by omega) (by omega)]
    simp only [Int.reduceToNat, rg_kIs, rg_kLs, rg_kRs, rg_kVs, rg_nns, rg_bs, cond_true, cond_false]
    rw [rg_M_row_34 d hR hN k (i + 1) _ (by omega), rg_up_u, rg_up_s, rg_tN]
    refine congrArg (fun f : Nat → Int => (some (some (.inl (N : Int)), hp X (rg_up D 79 f)) : Option rf_R)) (funext fun j => ?_)
    show (if 40 * R + (i + 1) ≤ j ∧ j < 40 * R + N then 0 else (if j = 40 * R + i then 0 else D 79 j)) = (if 40 * R + i ≤ j ∧ j < 40 * R + N then 0 else D 79 j)
    by_cases h1 : 40 * R + (i + 1) ≤ j ∧ j < 40 * R + N
    · rw [if_pos h1, if_pos (by omega)]
    · rw [if_neg h1]
      by_cases h2 : j = 40 * R + i
      · rw [if_pos h2, if_pos (by omega)]
      · rw [if_neg h2, if_neg (by omega)]
theorem st_row (hI : Inv D) (d : Nat) (r n : Int) : Ag X D (d + 8) 54 116 [.inl r, .inl n] := by
  unfold Ag
  have h6 := hI.2.2.1.2.1
  by_cases hr : 0 ≤ r ∧ r < 6
  · obtain ⟨R, rfl⟩ := Int.eq_ofNat_of_zero_le hr.1
    have hR : R < 6 := by omega
    have row := rg_rowN (X := X) (D := D) hR
    by_cases h1 : 40 < n
    · refine ⟨-1, D, D, ?_, ?_, hI⟩
      · rw [rf_e_W_row]
        simp only [rg_gR_0_0, Int.reduceToNat, rg_kIs, rg_kLs, rg_kRs, rg_kVs, rg_nns, rg_bs, cond_true, cond_false]
        rw [rg_W_pick_y (n := 6) (d + 6) (rg_aL_1 X D) hr row.2]
        simp only [rg_hp1, rg_o_0, Int.reduceToNat, rg_kIs, rg_kLs, rg_kRs, rg_kVs, rg_nns, rg_bs, cond_true, cond_false]
        rw [rf_e_W_renewed, rg_nzs, if_pos h1]
        simp only [Int.reduceToNat, rg_kIs, rg_kLs, rg_kRs, rg_kVs, rg_nns, rg_bs, cond_true, cond_false]
      · rw [rf_e_M_row, rg_M_isRow]
        simp only [if_pos hr, Int.reduceToNat, rg_kIs, rg_kLs, rg_kRs, rg_kVs, rg_nns, rg_bs, cond_true, cond_false]
        rw [if_neg (by decide), if_pos h1]
    · by_cases h2 : n < 0
      · refine ⟨-3, wfd 5 D, mfd 5 (wfd 5 D), ?_, ?_, hI.fd (by decide) (by decide)⟩
        · rw [rf_e_W_row]
          simp only [rg_gR_0_0, Int.reduceToNat, rg_kIs, rg_kLs, rg_kRs, rg_kVs, rg_nns, rg_bs, cond_true, cond_false]
          rw [rg_W_pick_y (n := 6) (d + 6) (rg_aL_1 X D) hr row.2]
          simp only [rg_hp1, rg_o_0, Int.reduceToNat, rg_kIs, rg_kLs, rg_kRs, rg_kVs, rg_nns, rg_bs, cond_true, cond_false]
          rw [rf_e_W_renewed, rg_nzs, if_neg h1, if_pos h2]
          simp only [rg_hp1, rg_o_0, Int.reduceToNat, rg_kIs, rg_kLs, rg_kRs, rg_kVs, rg_nns, rg_bs, cond_true, cond_false]
          rw [rg_W_found (d + 3) (by decide) (by decide) h6]
          simp only [Int.reduceToNat, rg_kIs, rg_kLs, rg_kRs, rg_kVs, rg_nns, rg_bs, cond_true, cond_false]
        · rw [rf_e_M_row, rg_M_isRow]
          simp only [if_pos hr, Int.reduceToNat, rg_kIs, rg_kLs, rg_kRs, rg_kVs, rg_nns, rg_bs, cond_true, cond_false]
          rw [if_neg (by decide), if_neg h1, if_pos h2]
          simp only [rg_hp1, rg_o_77, Int.reduceToNat, rg_kIs, rg_kLs, rg_kRs, rg_kVs, rg_nns, rg_bs, cond_true, cond_false]
          rw [rg_M_finds (d + 6) (by decide) (by decide)]
          simp only [Int.reduceToNat, rg_kIs, rg_kLs, rg_kRs, rg_kVs, rg_nns, rg_bs, cond_true, cond_false]
      · obtain ⟨N, rfl⟩ := Int.eq_ofNat_of_zero_le (show 0 ≤ n by omega)
        have hN : N ≤ 40 := by omega
        refine ⟨(N : Int), rg_up (rg_up D (44 + 2 * R) (rg_ui (D (44 + 2 * R)) 1 (N : Int))) (44 + 2 * R + 1) (fun j => if (j : Int) < (N : Int) then 0 else D (44 + 2 * R + 1) j), rg_up (rg_up (rg_up (rg_up D (44 + 2 * R) (rg_ui (D (44 + 2 * R)) 1 (N : Int))) (44 + 2 * R + 1) (fun j => if (j : Int) < (N : Int) then 0 else D (44 + 2 * R + 1) j)) 78 (rg_ui (D 78) R (N : Int))) 79 (fun j => if 40 * R + 0 ≤ j ∧ j < 40 * R + N then 0 else D 79 j), ?_, ?_, ?_⟩
        · rw [rf_e_W_row]
          simp only [rg_gR_0_0, Int.reduceToNat, rg_kIs, rg_kLs, rg_kRs, rg_kVs, rg_nns, rg_bs, cond_true, cond_false]
          rw [rg_W_pick_y (n := 6) (d + 6) (rg_aL_1 X D) hr row.2]
          simp only [rg_hp1, rg_o_0, Int.reduceToNat, rg_kIs, rg_kLs, rg_kRs, rg_kVs, rg_nns, rg_bs, cond_true, cond_false]
          rw [rf_e_W_renewed, rg_nzs, if_neg h1, if_neg h2]
          simp only [rg_hp1, rg_row_o row.1, Int.reduceToNat, rg_kIs, rg_kLs, rg_kRs, rg_kVs, rg_nns, rg_bs, cond_true, cond_false]
          rw [rg_R_renew row.1 (d + 3) (by omega) (by omega) (by decide)]
          simp only [Int.reduceToNat, rg_kIs, rg_kLs, rg_kRs, rg_kVs, rg_nns, rg_bs, cond_true, cond_false]
        · rw [rf_e_M_row, rg_M_isRow]
          simp only [if_pos hr, Int.reduceToNat, rg_kIs, rg_kLs, rg_kRs, rg_kVs, rg_nns, rg_bs, cond_true, cond_false]
          rw [if_neg (by decide), if_neg h1, if_neg h2]
          simp only [rg_gR_77_0, Int.reduceToNat, rg_kIs, rg_kLs, rg_kRs, rg_kVs, rg_nns, rg_bs, cond_true, cond_false]
          rw [rg_sI_78 (by omega) (by omega)]
          simp only [Int.reduceToNat, rg_kIs, rg_kLs, rg_kRs, rg_kVs, rg_nns, rg_bs, cond_true, cond_false]
          have l := rg_M_row_34 (X := X) (d + 7) hR hN N 0 (rg_up (rg_up (rg_up D (44 + 2 * R) (rg_ui (D (44 + 2 * R)) 1 (N : Int))) (44 + 2 * R + 1) (fun j => if (j : Int) < (N : Int) then 0 else D (44 + 2 * R + 1) j)) 78 (rg_ui (D 78) R (N : Int))) (by omega)
          rw [show ((0 : Nat) : Int) = 0 from rfl, rg_up_n (show (79 : Nat) ≠ 78 by decide), rg_up_n (show (79 : Nat) ≠ 44 + 2 * R + 1 by omega), rg_up_n (show (79 : Nat) ≠ 44 + 2 * R by omega)] at l
          rw [rg_up_n (show (78 : Nat) ≠ 44 + 2 * R + 1 by omega), rg_up_n (show (78 : Nat) ≠ 44 + 2 * R by omega), rg_tN, l]
        · refine hI.rowchg hR (fun a z1 z2 z3 z4 => ?_) (fun q z => ?_) (fun k z => ?_) ?_
          · rw [rg_up_n z4, rg_up_n z3, rg_up_n z2, rg_up_n z1]
          · rw [rg_up_n (by decide), rg_up_s, rg_ui_n z]
          · rw [rg_up_s]
            show (if 40 * R + 0 ≤ k ∧ k < 40 * R + N then 0 else D 79 k) = _
            rw [if_neg (by omega)]
          · rw [rg_up_n (show (78 : Nat) ≠ 79 by decide), rg_up_s, rg_ui_s, rg_up_s, rg_up_n (show 44 + 2 * R ≠ 79 by omega), rg_up_n (show 44 + 2 * R ≠ 78 by omega), rg_up_n (show 44 + 2 * R ≠ 44 + 2 * R + 1 by omega), rg_up_s, rg_ui_s, rg_up_n (show 44 + 2 * R + 1 ≠ 79 by omega), rg_up_n (show 44 + 2 * R + 1 ≠ 78 by omega), rg_up_s]
            refine ⟨rfl, by omega, by omega, fun j hj => ?_⟩
            show (if 40 * R + 0 ≤ 40 * R + j ∧ 40 * R + j < 40 * R + N then 0 else D 79 (40 * R + j)) = (if (j : Int) < (N : Int) then 0 else D (44 + 2 * R + 1) j) ∧ (False → -128 ≤ (if (j : Int) < (N : Int) then 0 else D (44 + 2 * R + 1) j) ∧ (if (j : Int) < (N : Int) then 0 else D (44 + 2 * R + 1) j) ≤ 127)
            rw [if_pos (by omega), if_pos hj]
            exact ⟨rfl, fun _ => by omega⟩
  · refine ⟨-1, D, D, ?_, ?_, hI⟩
    · rw [rf_e_W_row]
      simp only [rg_gR_0_0, Int.reduceToNat, rg_kIs, rg_kLs, rg_kRs, rg_kVs, rg_nns, rg_bs, cond_true, cond_false]
      rw [rg_W_pick_n (n := 6) (d + 6) (rg_aL_1 X D) hr]
      simp only [rg_hp1, rg_o_0, Int.reduceToNat, rg_kIs, rg_kLs, rg_kRs, rg_kVs, rg_nns, rg_bs, cond_true, cond_false]
      rw [rf_e_W_renewed, rg_nzn]
      simp only [Int.reduceToNat, rg_kIs, rg_kLs, rg_kRs, rg_kVs, rg_nns, rg_bs, cond_true, cond_false]
    · rw [rf_e_M_row, rg_M_isRow]
      simp only [if_neg hr, Int.reduceToNat, rg_kIs, rg_kLs, rg_kRs, rg_kVs, rg_nns, rg_bs, cond_true, cond_false]
      rw [if_pos (by decide)]

theorem rg_textN {R : Nat} (h : R < 4) : rg_row (56 + 2 * R) 60 ∧ rf_aR (hp X D) 2 (R : Int) = some (some (56 + 2 * R)) := by
  have e := rg_row_texts (X := X) (D := D) (i := (R : Int)) (by omega) (by omega)
  rw [rg_tN] at e
  exact e
theorem Inv.textchg {D D' : rf_D} (hI : Inv D) {R : Nat} (hR : R < 4) (fr : ∀ a, a ≠ 56 + 2 * R → a ≠ 56 + 2 * R + 1 → a ≠ 80 → a ≠ 81 → D' a = D a) (hS : ∀ q, q ≠ R → D' 80 q = D 80 q) (hC : ∀ k, (k < 60 * R ∨ 60 * R + 60 ≤ k) → D' 81 k = D 81 k) (hr : D' 80 R = D' (56 + 2 * R) 1 ∧ -1 ≤ D' (56 + 2 * R) 1 ∧ D' (56 + 2 * R) 1 ≤ 60 ∧ ∀ j : Nat, (j : Int) < D' (56 + 2 * R) 1 → D' 81 (60 * R + j) = D' (56 + 2 * R + 1) j ∧ (True → -128 ≤ D' (56 + 2 * R + 1) j ∧ D' (56 + 2 * R + 1) j ≤ 127)) : Inv D' := by
  obtain ⟨h1, h2, h3, h4, h5⟩ := hI
  have e : ∀ a, (a < 56 ∨ 56 + 2 * 4 ≤ a) → a ≠ 80 → a ≠ 81 → D' a = D a := fun a z1 z2 z3 => fr a (by omega) (by omega) z2 z3
  refine ⟨h1.of (e _ (by decide) (by decide) (by decide)) (e _ (by decide) (by decide) (by decide)) fun k z1 z2 => e k (by omega) (by omega) (by omega), h2.set R (fun q _ z => hS q z) (fun q j hq z hj => hC _ (by omega)) (fun q hq z => ⟨fr _ (by omega) (by omega) (by omega) (by omega), fr _ (by omega) (by omega) (by omega) (by omega)⟩) hr, ?_, ?_, ?_⟩
  · exact h3.of (e 85 (by omega) (by omega) (by omega)) (e 7 (by omega) (by omega) (by omega)) (e 6 (by omega) (by omega) (by omega)) (by rw [e 77 (by omega) (by omega) (by omega)]) (by rw [e 0 (by omega) (by omega) (by omega)]) (by rw [e 77 (by omega) (by omega) (by omega), e 0 (by omega) (by omega) (by omega)]; exact h3.2.2.2.1) (by rw [e 77 (by omega) (by omega) (by omega)]) (by rw [e 0 (by omega) (by omega) (by omega)]) (by rw [e 77 (by omega) (by omega) (by omega)]) (by rw [e 0 (by omega) (by omega) (by omega)])
  · exact h4.of (e 8 (by omega) (by omega) (by omega)) (e 10 (by omega) (by omega) (by omega))
  · exact h5.of (by rw [e 0 (by omega) (by omega) (by omega)]) fun a z => e a (by omega) (by omega) (by omega)
theorem rg_M_text_34 (d : Nat) {R N : Nat} (hR : R < 4) (hN : N ≤ 60) : ∀ (k i : Nat) (D : rf_D), i + k = N → rf_j_M_text_34 d 77 (R : Int) (N : Int) (i : Int) (hp X D) = some (some (.inl (N : Int)), hp X (rg_up D 81 (fun j => if 60 * R + i ≤ j ∧ j < 60 * R + N then 32 else D 81 j)))
  | 0, i, D, hk => by
    rw [rf_e_M_text_34, if_neg (by omega)]
    have e : (fun j => if 60 * R + i ≤ j ∧ j < 60 * R + N then 32 else D 81 j) = D 81 := by
      funext j
      rw [if_neg (by omega)]
    rw [e, rg_up_i]
  | k + 1, i, D, hk => by
    have x1 : rf_w (rf_w (60 * (R : Int)) + (i : Int)) = ((60 * R + i : Nat) : Int) := by
      rw [rg_w (z := 60 * (R : Int)) (by omega) (by omega), rg_w (by omega) (by omega)]
      omega
    have x2 : rf_w ((i : Int) + 1) = ((i + 1 : Nat) : Int) := by
      rw [rg_w (by omega) (by omega)]
      omega
    rw [rf_e_M_text_34, if_pos (by omega)]
    simp only [rg_gR_77_3, Int.reduceToNat, rg_kIs, rg_kLs, rg_kRs, rg_kVs, rg_nns, rg_bs, cond_true, cond_false, x1, x2]
    rw [rg_sI_81 (by omega) (by omega)]
    simp only [Int.reduceToNat, rg_kIs, rg_kLs, rg_kRs, rg_kVs, rg_nns, rg_bs, cond_true, cond_false]
    rw [rg_M_text_34 d hR hN k (i + 1) _ (by omega), rg_up_u, rg_up_s, rg_tN]
    refine congrArg (fun f : Nat → Int => (some (some (.inl (N : Int)), hp X (rg_up D 81 f)) : Option rf_R)) (funext fun j => ?_)
    show (if 60 * R + (i + 1) ≤ j ∧ j < 60 * R + N then 32 else (if j = 60 * R + i then 32 else D 81 j)) = (if 60 * R + i ≤ j ∧ j < 60 * R + N then 32 else D 81 j)
    by_cases h1 : 60 * R + (i + 1) ≤ j ∧ j < 60 * R + N
    · rw [if_pos h1, if_pos (by omega)]
    · rw [if_neg h1]
      by_cases h2 : j = 60 * R + i
      · rw [if_pos h2, if_pos (by omega)]
      · rw [if_neg h2, if_neg (by omega)]
theorem st_text (hI : Inv D) (d : Nat) (r n : Int) : Ag X D (d + 8) 65 126 [.inl r, .inl n] := by
  unfold Ag
  have h6 := hI.2.2.1.2.1
  by_cases hr : 0 ≤ r ∧ r < 4
  · obtain ⟨R, rfl⟩ := Int.eq_ofNat_of_zero_le hr.1
    have hR : R < 4 := by omega
    have row := rg_textN (X := X) (D := D) hR
    by_cases h1 : 60 < n
    · refine ⟨-1, D, D, ?_, ?_, hI⟩
      · rw [rf_e_W_text]
        simp only [rg_gR_0_1, Int.reduceToNat, rg_kIs, rg_kLs, rg_kRs, rg_kVs, rg_nns, rg_bs, cond_true, cond_false]
        rw [rg_W_pick_y (n := 4) (d + 6) (rg_aL_2 X D) hr row.2]
        simp only [rg_hp1, rg_o_0, Int.reduceToNat, rg_kIs, rg_kLs, rg_kRs, rg_kVs, rg_nns, rg_bs, cond_true, cond_false]
        rw [rf_e_W_renewed, rg_nzs, if_pos h1]
        simp only [Int.reduceToNat, rg_kIs, rg_kLs, rg_kRs, rg_kVs, rg_nns, rg_bs, cond_true, cond_false]
      · rw [rf_e_M_text, rg_M_isText]
        simp only [if_pos hr, Int.reduceToNat, rg_kIs, rg_kLs, rg_kRs, rg_kVs, rg_nns, rg_bs, cond_true, cond_false]
        rw [if_neg (by decide), if_pos h1]
    · by_cases h2 : n < 0
      · refine ⟨-3, wfd 5 D, mfd 5 (wfd 5 D), ?_, ?_, hI.fd (by decide) (by decide)⟩
        · rw [rf_e_W_text]
          simp only [rg_gR_0_1, Int.reduceToNat, rg_kIs, rg_kLs, rg_kRs, rg_kVs, rg_nns, rg_bs, cond_true, cond_false]
          rw [rg_W_pick_y (n := 4) (d + 6) (rg_aL_2 X D) hr row.2]
          simp only [rg_hp1, rg_o_0, Int.reduceToNat, rg_kIs, rg_kLs, rg_kRs, rg_kVs, rg_nns, rg_bs, cond_true, cond_false]
          rw [rf_e_W_renewed, rg_nzs, if_neg h1, if_pos h2]
          simp only [rg_hp1, rg_o_0, Int.reduceToNat, rg_kIs, rg_kLs, rg_kRs, rg_kVs, rg_nns, rg_bs, cond_true, cond_false]
          rw [rg_W_found (d + 3) (by decide) (by decide) h6]
          simp only [Int.reduceToNat, rg_kIs, rg_kLs, rg_kRs, rg_kVs, rg_nns, rg_bs, cond_true, cond_false]
        · rw [rf_e_M_text, rg_M_isText]
          simp only [if_pos hr, Int.reduceToNat, rg_kIs, rg_kLs, rg_kRs, rg_kVs, rg_nns, rg_bs, cond_true, cond_false]
          rw [if_neg (by decide), if_neg h1, if_pos h2]
          simp only [rg_hp1, rg_o_77, Int.reduceToNat, rg_kIs, rg_kLs, rg_kRs, rg_kVs, rg_nns, rg_bs, cond_true, cond_false]
          rw [rg_M_finds (d + 6) (by decide) (by decide)]
          simp only [Int.reduceToNat, rg_kIs, rg_kLs, rg_kRs, rg_kVs, rg_nns, rg_bs, cond_true, cond_false]
      · obtain ⟨N, rfl⟩ := Int.eq_ofNat_of_zero_le (show 0 ≤ n by omega)
        have hN : N ≤ 60 := by omega
        refine ⟨(N : Int), rg_up (rg_up D (56 + 2 * R) (rg_ui (D (56 + 2 * R)) 1 (N : Int))) (56 + 2 * R + 1) (fun j => if (j : Int) < (N : Int) then 32 else D (56 + 2 * R + 1) j), rg_up (rg_up (rg_up (rg_up D (56 + 2 * R) (rg_ui (D (56 + 2 * R)) 1 (N : Int))) (56 + 2 * R + 1) (fun j => if (j : Int) < (N : Int) then 32 else D (56 + 2 * R + 1) j)) 80 (rg_ui (D 80) R (N : Int))) 81 (fun j => if 60 * R + 0 ≤ j ∧ j < 60 * R + N then 32 else D 81 j), ?_, ?_, ?_⟩
        · rw [rf_e_W_text]
          simp only [rg_gR_0_1, Int.reduceToNat, rg_kIs, rg_kLs, rg_kRs, rg_kVs, rg_nns, rg_bs, cond_true, cond_false]
          rw [rg_W_pick_y (n := 4) (d + 6) (rg_aL_2 X D) hr row.2]
          simp only [rg_hp1, rg_o_0, Int.reduceToNat, rg_kIs, rg_kLs, rg_kRs, rg_kVs, rg_nns, rg_bs, cond_true, cond_false]
          rw [rf_e_W_renewed, rg_nzs, if_neg h1, if_neg h2]
          simp only [rg_hp1, rg_row_o row.1, Int.reduceToNat, rg_kIs, rg_kLs, rg_kRs, rg_kVs, rg_nns, rg_bs, cond_true, cond_false]
          rw [rg_R_renew row.1 (d + 3) (by omega) (by omega) (by decide)]
          simp only [Int.reduceToNat, rg_kIs, rg_kLs, rg_kRs, rg_kVs, rg_nns, rg_bs, cond_true, cond_false]
        · rw [rf_e_M_text, rg_M_isText]
          simp only [if_pos hr, Int.reduceToNat, rg_kIs, rg_kLs, rg_kRs, rg_kVs, rg_nns, rg_bs, cond_true, cond_false]
          rw [if_neg (by decide), if_neg h1, if_neg h2]
          simp only [rg_gR_77_2, Int.reduceToNat, rg_kIs, rg_kLs, rg_kRs, rg_kVs, rg_nns, rg_bs, cond_true, cond_false]
          rw [rg_sI_80 (by omega) (by omega)]
          simp only [Int.reduceToNat, rg_kIs, rg_kLs, rg_kRs, rg_kVs, rg_nns, rg_bs, cond_true, cond_false]
          have l := rg_M_text_34 (X := X) (d + 7) hR hN N 0 (rg_up (rg_up (rg_up D (56 + 2 * R) (rg_ui (D (56 + 2 * R)) 1 (N : Int))) (56 + 2 * R + 1) (fun j => if (j : Int) < (N : Int) then 32 else D (56 + 2 * R + 1) j)) 80 (rg_ui (D 80) R (N : Int))) (by omega)
          rw [show ((0 : Nat) : Int) = 0 from rfl, rg_up_n (show (81 : Nat) ≠ 80 by decide), rg_up_n (show (81 : Nat) ≠ 56 + 2 * R + 1 by omega), rg_up_n (show (81 : Nat) ≠ 56 + 2 * R by omega)] at l
          rw [rg_up_n (show (80 : Nat) ≠ 56 + 2 * R + 1 by omega), rg_up_n (show (80 : Nat) ≠ 56 + 2 * R by omega), rg_tN, l]
        · refine hI.textchg hR (fun a z1 z2 z3 z4 => ?_) (fun q z => ?_) (fun k z => ?_) ?_
          · rw [rg_up_n z4, rg_up_n z3, rg_up_n z2, rg_up_n z1]
          · rw [rg_up_n (by decide), rg_up_s, rg_ui_n z]
          · rw [rg_up_s]
            show (if 60 * R + 0 ≤ k ∧ k < 60 * R + N then 32 else D 81 k) = _
            rw [if_neg (by omega)]
          · rw [rg_up_n (show (80 : Nat) ≠ 81 by decide), rg_up_s, rg_ui_s, rg_up_s, rg_up_n (show 56 + 2 * R ≠ 81 by omega), rg_up_n (show 56 + 2 * R ≠ 80 by omega), rg_up_n (show 56 + 2 * R ≠ 56 + 2 * R + 1 by omega), rg_up_s, rg_ui_s, rg_up_n (show 56 + 2 * R + 1 ≠ 81 by omega), rg_up_n (show 56 + 2 * R + 1 ≠ 80 by omega), rg_up_s]
            refine ⟨rfl, by omega, by omega, fun j hj => ?_⟩
            show (if 60 * R + 0 ≤ 60 * R + j ∧ 60 * R + j < 60 * R + N then 32 else D 81 (60 * R + j)) = (if (j : Int) < (N : Int) then 32 else D (56 + 2 * R + 1) j) ∧ (True → -128 ≤ (if (j : Int) < (N : Int) then 32 else D (56 + 2 * R + 1) j) ∧ (if (j : Int) < (N : Int) then 32 else D (56 + 2 * R + 1) j) ≤ 127)
            rw [if_pos (by omega), if_pos hj]
            exact ⟨rfl, fun _ => by omega⟩
  · refine ⟨-1, D, D, ?_, ?_, hI⟩
    · rw [rf_e_W_text]
      simp only [rg_gR_0_1, Int.reduceToNat, rg_kIs, rg_kLs, rg_kRs, rg_kVs, rg_nns, rg_bs, cond_true, cond_false]
      rw [rg_W_pick_n (n := 4) (d + 6) (rg_aL_2 X D) hr]
      simp only [rg_hp1, rg_o_0, Int.reduceToNat, rg_kIs, rg_kLs, rg_kRs, rg_kVs, rg_nns, rg_bs, cond_true, cond_false]
      rw [rf_e_W_renewed, rg_nzn]
      simp only [Int.reduceToNat, rg_kIs, rg_kLs, rg_kRs, rg_kVs, rg_nns, rg_bs, cond_true, cond_false]
    · rw [rf_e_M_text, rg_M_isText]
      simp only [if_neg hr, Int.reduceToNat, rg_kIs, rg_kLs, rg_kRs, rg_kVs, rg_nns, rg_bs, cond_true, cond_false]
      rw [if_pos (by decide)]
end RGS2
