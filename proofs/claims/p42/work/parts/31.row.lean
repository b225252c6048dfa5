/-! Rows of the class: what each of their methods does. -/
section RGROW
variable {X : rf_X} {D : rf_D} {o n : Nat}
theorem rg_row_gI (hr : rg_row o n) (i : Nat) : rf_gI (hp X D) 2 o i = some (D o i) := rg_gI hr.1
theorem rg_row_gR (hr : rg_row o n) : rf_gR (hp X D) 2 o 0 = some (some (o + 1)) := (rg_gR hr.1).trans (congrArg some hr.2.1)
theorem rg_row_pI (hr : rg_row o n) (i : Nat) (v : Int) : rf_pI (hp X D) 2 o i v = some (hp X (rg_up D o (rg_ui (D o) i v))) := rg_pI hr.1
theorem rg_row_o (hr : rg_row o n) : rf_isO rg_T o 2 = true := hr.1
theorem rg_row_aL (hr : rg_row o n) : rf_aL (hp X D) (o + 1) = some (n : Int) := rg_aL hr.2.2.2 hr.2.2.1
theorem rg_row_aI (hr : rg_row o n) {i : Int} (h1 : 0 ≤ i) (h2 : i < (n : Int)) : rf_aI (hp X D) (o + 1) i = some (D (o + 1) i.toNat) := rg_aI hr.2.2.2 hr.2.2.1 h1 h2
theorem rg_row_sI (hr : rg_row o n) {i v : Int} (h1 : 0 ≤ i) (h2 : i < (n : Int)) : rf_sI (hp X D) (o + 1) i v = some (hp X (rg_up D (o + 1) (rg_ui (D (o + 1)) i.toNat v))) := rg_sI hr.2.2.1 h1 h2
def rg_in (D : rf_D) (o n : Nat) (i : Int) : Prop := 0 ≤ i ∧ i < D o 1 ∧ i < (n : Int)
theorem rg_R_has (hr : rg_row o n) (d : Nat) (i : Int) : rf_call (d + 1) 3 [.inr (.inr (some o)), .inl i] (hp X D) = some (some (.inl (if 0 ≤ i ∧ i < D o 1 ∧ i < (n : Int) then 1 else 0)), hp X D) := by
  rw [rf_e_R_has]
  simp only [rg_row_gI hr, rg_row_gR hr, rg_row_aL hr, Int.reduceToNat, rg_kIs, rg_kLs, rg_kRs, rg_kVs, rg_nns, rg_bs, cond_true, cond_false]
  by_cases h1 : i < 0
  · rw [if_pos h1, if_neg (fun h => by omega)]
  · rw [if_neg h1]
    by_cases h2 : i < D o 1
    · rw [if_pos h2]
      by_cases h3 : i < (n : Int)
      · rw [if_pos h3, if_pos ⟨by omega, h2, h3⟩]
      · rw [if_neg h3, if_neg (fun h => h3 h.2.2)]
    · rw [if_neg h2, if_neg (fun h => h2 h.2.1)]
theorem rg_R_cell (hr : rg_row o n) (d : Nat) (i : Int) : rf_call (d + 1) 4 [.inr (.inr (some o)), .inl i] (hp X D) = some (some (.inl (if 0 ≤ i ∧ i < D o 1 ∧ i < (n : Int) then D (o + 1) i.toNat else 0)), hp X D) := by
  rw [rf_e_R_cell]
  simp only [rg_row_gI hr, rg_row_gR hr, rg_row_aL hr, Int.reduceToNat, rg_kIs, rg_kLs, rg_kRs, rg_kVs, rg_nns, rg_bs, cond_true, cond_false]
  by_cases h1 : i < 0
  · rw [if_pos h1, if_neg (fun h => by omega)]
  · rw [if_neg h1]
    by_cases h2 : i < D o 1
    · rw [if_pos h2]
      by_cases h3 : i < (n : Int)
      · rw [if_pos h3, if_pos ⟨by omega, h2, h3⟩, rg_row_aI hr (by omega) h3]
        rfl
      · rw [if_neg h3, if_neg (fun h => h3 h.2.2)]
    · rw [if_neg h2, if_neg (fun h => h2 h.2.1)]
theorem rg_R_cellI (hr : rg_row o n) (d : Nat) {i : Int} (h1 : 0 ≤ i) (h2 : i < D o 1) (h3 : D o 1 ≤ (n : Int)) : rf_call (d + 1) 4 [.inr (.inr (some o)), .inl i] (hp X D) = some (some (.inl (D (o + 1) i.toNat)), hp X D) := by
  rw [rg_R_cell hr, if_pos ⟨h1, h2, by omega⟩]
theorem rg_R_isThere (hr : rg_row o n) (d : Nat) : rf_call (d + 1) 5 [.inr (.inr (some o))] (hp X D) = some (some (.inl (if D o 1 < 0 then 0 else 1)), hp X D) := by
  rw [rf_e_R_isThere]
  simp only [rg_row_gI hr, Int.reduceToNat, rg_kIs, rg_kLs, rg_kRs, rg_kVs, rg_nns, rg_bs, cond_true, cond_false]
  split <;> rfl
theorem rg_R_set (hr : rg_row o n) (d : Nat) (i v : Int) : rf_call (d + 2) 2 [.inr (.inr (some o)), .inl i, .inl v] (hp X D) = some (none, hp X (if 0 ≤ i ∧ i < D o 1 ∧ i < (n : Int) then rg_up D (o + 1) (rg_ui (D (o + 1)) i.toNat v) else D)) := by
  rw [rf_e_R_set]
  simp only [rg_hp1, rg_row_o hr, rg_R_has hr, rg_row_gR hr, Int.reduceToNat, rg_kIs, rg_kLs, rg_kRs, rg_kVs, rg_nns, rg_bs, cond_true, cond_false]
  by_cases h : 0 ≤ i ∧ i < D o 1 ∧ i < (n : Int)
  · simp only [if_pos h]
    rw [if_neg (by decide), rg_row_sI hr h.1 h.2.2]
    rfl
  · simp only [if_neg h]
    rfl
theorem rg_R_setI (hr : rg_row o n) (d : Nat) {i v : Int} (h1 : 0 ≤ i) (h2 : i < D o 1) (h3 : D o 1 ≤ (n : Int)) : rf_call (d + 2) 2 [.inr (.inr (some o)), .inl i, .inl v] (hp X D) = some (none, hp X (rg_up D (o + 1) (rg_ui (D (o + 1)) i.toNat v))) := by
  rw [rg_R_set hr, if_pos ⟨h1, h2, by omega⟩]
theorem rg_R_goMissing (hr : rg_row o n) (d : Nat) : rf_call (d + 1) 6 [.inr (.inr (some o))] (hp X D) = some (none, hp X (rg_up D o (rg_ui (D o) 1 (-1)))) := by
  rw [rf_e_R_goMissing]
  simp only [rg_row_pI hr, Int.reduceToNat, rg_kIs, rg_kLs, rg_kRs, rg_kVs, rg_nns, rg_bs, cond_true, cond_false]
theorem rg_J_max (d : Nat) (a b : Int) (h : rf_H) : rf_call (d + 1) 13 [.inl a, .inl b] h = some (some (.inl (if a < b then b else a)), h) := by
  rw [rf_e_JM_max_II_I]
  split <;> rfl
theorem rg_J_min (d : Nat) (a b : Int) (h : rf_H) : rf_call (d + 1) 14 [.inl a, .inl b] h = some (some (.inl (if b < a then b else a)), h) := by
  rw [rf_e_JM_min]
  split <;> rfl
theorem rg_R_renew_loop (hr : rg_row o n) (d : Nat) (f : Int) (z : Nat) (hz : z ≤ n) (hn : n ≤ 100000) : ∀ (k i : Nat) (D : rf_D), i + k = z → D o 1 = (z : Int) → rf_j_R_renew_19 (d + 2) o f (i : Int) (hp X D) = some (none, hp X (rg_up D (o + 1) (fun j => if i ≤ j ∧ j < z then f else D (o + 1) j)))
  | 0, i, D, hk, hD => by
    rw [rf_e_R_renew_19]
    simp only [rg_row_gI hr, Int.reduceToNat, rg_kIs, rg_kLs, rg_kRs, rg_kVs, rg_nns, rg_bs, cond_true, cond_false, hD]
    rw [if_neg (by omega)]
    have e : (fun j => if i ≤ j ∧ j < z then f else D (o + 1) j) = D (o + 1) := by
      funext j
      rw [if_neg (by omega)]
    rw [e, rg_up_i]
  | k + 1, i, D, hk, hD => by
    rw [rf_e_R_renew_19]
    simp only [rg_row_gI hr, rg_hp1, rg_row_o hr, Int.reduceToNat, rg_kIs, rg_kLs, rg_kRs, rg_kVs, rg_nns, rg_bs, cond_true, cond_false, hD]
    rw [if_pos (by omega), rg_R_setI hr d (by omega) (by omega) (by omega)]
    simp only [Int.reduceToNat, rg_kIs, rg_kLs, rg_kRs, rg_kVs, rg_nns, rg_bs, cond_true, cond_false]
    rw [rg_w (by omega) (by omega)]
    have e1 : ((i : Int) + 1) = ((i + 1 : Nat) : Int) := by omega
    rw [e1, rg_R_renew_loop hr d f z hz hn k (i + 1) _ (by omega) (by rw [rg_up_n (by omega)]; exact hD)]
    congr 3
    rw [rg_up_u, rg_up_s]
    congr 1
    funext j
    unfold rg_ui
    have e2 : ((i : Int)).toNat = i := by omega
    rw [e2]
    by_cases h1 : i + 1 ≤ j ∧ j < z
    · rw [if_pos h1, if_pos (by omega)]
    · rw [if_neg h1]
      by_cases h2 : j = i
      · rw [if_pos h2, if_pos (by omega)]
      · rw [if_neg h2, if_neg (by omega)]
theorem rg_R_renew (hr : rg_row o n) (d : Nat) {z f : Int} (h1 : 0 ≤ z) (h2 : z ≤ (n : Int)) (hn : n ≤ 100000) : rf_call (d + 3) 1 [.inr (.inr (some o)), .inl z, .inl f] (hp X D) = some (none, hp X (rg_up (rg_up D o (rg_ui (D o) 1 z)) (o + 1) (fun j => if (j : Int) < z then f else D (o + 1) j))) := by
  rw [rf_e_R_renew]
  simp only [rg_row_gR hr, rg_row_aL hr, rg_J_min, rg_J_max, Int.reduceToNat, rg_kIs, rg_kLs, rg_kRs, rg_kVs, rg_nns, rg_bs, cond_true, cond_false]
  rw [if_neg (show ¬ (n : Int) < z by omega)]
  have e0 : (if 0 < z then z else 0) = z := by split <;> omega
  rw [e0]
  simp only [rg_row_pI hr, Int.reduceToNat, rg_kIs, rg_kLs, rg_kRs, rg_kVs, rg_nns, rg_bs, cond_true, cond_false]
  obtain ⟨m, rfl⟩ := Int.eq_ofNat_of_zero_le h1
  have hl := rg_R_renew_loop (X := X) hr d f m (by omega) hn m 0 (rg_up D o (rg_ui (D o) 1 (m : Int))) (by omega) (by rw [rg_up_s, rg_ui_s])
  rw [show ((0 : Nat) : Int) = 0 from rfl] at hl
  rw [hl]
  congr 4
  funext j
  rw [rg_up_n (by omega)]
  by_cases h : j < m
  · rw [if_pos (by omega), if_pos (by omega)]
  · rw [if_neg (by omega), if_neg (by omega)]
theorem rg_R_shorten (hr : rg_row o n) (d : Nat) {z : Int} (h2 : z ≤ D o 1) : rf_call (d + 2) 11 [.inr (.inr (some o)), .inl z] (hp X D) = some (none, hp X (rg_up D o (rg_ui (D o) 1 z))) := by
  rw [rf_e_R_shorten]
  simp only [rg_row_gI hr, rg_J_min, Int.reduceToNat, rg_kIs, rg_kLs, rg_kRs, rg_kVs, rg_nns, rg_bs, cond_true, cond_false]
  have e0 : (if z < D o 1 then z else D o 1) = z := by split <;> omega
  rw [e0]
  simp only [rg_row_pI hr, Int.reduceToNat, rg_kIs, rg_kLs, rg_kRs, rg_kVs, rg_nns, rg_bs, cond_true, cond_false]
theorem rg_R_add (hr : rg_row o n) (d : Nat) {v : Int} (h1 : 0 ≤ D o 1) (h2 : D o 1 < (n : Int)) (hn : n ≤ 100000) : rf_call (d + 3) 10 [.inr (.inr (some o)), .inl v] (hp X D) = some (none, hp X (rg_up (rg_up D o (rg_ui (D o) 1 (D o 1 + 1))) (o + 1) (rg_ui (D (o + 1)) (D o 1).toNat v))) := by
  rw [rf_e_R_add]
  simp only [rg_hp1, rg_row_o hr, rg_R_isThere hr, rg_row_gI hr, rg_row_gR hr, rg_row_aL hr, rg_row_pI hr, Int.reduceToNat, rg_kIs, rg_kLs, rg_kRs, rg_kVs, rg_nns, rg_bs, cond_true, cond_false]
  rw [if_neg (show ¬ D o 1 < 0 by omega), if_neg (by decide), if_pos h2]
  simp only [rg_up_s, rg_ui_s, Int.reduceToNat, rg_kIs, rg_kLs, rg_kRs, rg_kVs, rg_nns, rg_bs, cond_true, cond_false]
  rw [rg_w (z := D o 1 + 1) (by omega) (by omega), rg_w (z := D o 1 + 1 - 1) (by omega) (by omega), show D o 1 + 1 - 1 = D o 1 by omega]
  rw [rg_R_setI hr d h1 (by rw [rg_up_s, rg_ui_s]; omega) (by rw [rg_up_s, rg_ui_s]; omega)]
  simp only [Int.reduceToNat, rg_kIs, rg_kLs, rg_kRs, rg_kVs, rg_nns, rg_bs, cond_true, cond_false]
  rw [rg_up_n (by omega)]
theorem rg_R_spans (hr : rg_row o n) (d : Nat) {i k : Int} (h1 : -1 ≤ D o 1) (h2 : D o 1 ≤ 100000) (hi : i ≤ 2147483647) : rf_call (d + 1) 8 [.inr (.inr (some o)), .inl i, .inl k] (hp X D) = some (some (.inl (if 0 ≤ i ∧ 0 ≤ k ∧ i + k ≤ D o 1 then 1 else 0)), hp X D) := by
  rw [rf_e_R_spans]
  simp only [rg_row_gI hr, Int.reduceToNat, rg_kIs, rg_kLs, rg_kRs, rg_kVs, rg_nns, rg_bs, cond_true, cond_false]
  by_cases a1 : i < 0
  · rw [if_pos a1, if_neg (by omega)]
  · rw [if_neg a1]
    by_cases a2 : k < 0
    · rw [if_pos a2, if_neg (by omega)]
    · rw [if_neg a2]
      by_cases a3 : D o 1 < i
      · rw [if_pos a3, if_neg (by omega)]
      · rw [if_neg a3, rg_w (by omega) (by omega)]
        by_cases a4 : D o 1 - i < k
        · rw [if_pos a4, if_neg (by omega)]
        · rw [if_neg a4, if_pos (by omega)]
theorem rg_R_becomes_loop {p m : Nat} (hr : rg_row o n) (hp' : rg_row p m) (hne : p ≠ o) (hne1 : p + 1 ≠ o) (hne2 : p ≠ o + 1) (d : Nat) (z : Nat) (hz : z ≤ n) (hz2 : z ≤ m) (hn : n ≤ 100000) : ∀ (k i : Nat) (D : rf_D), i + k = z → D o 1 = (z : Int) → D p 1 = (z : Int) → rf_j_R_becomes_18 (d + 2) o (some p) (i : Int) (hp X D) = some (none, hp X (rg_up D (o + 1) (fun j => if i ≤ j ∧ j < z then D (p + 1) j else D (o + 1) j)))
  | 0, i, D, hk, hD, hD2 => by
    rw [rf_e_R_becomes_18]
    simp only [rg_row_gI hr, Int.reduceToNat, rg_kIs, rg_kLs, rg_kRs, rg_kVs, rg_nns, rg_bs, cond_true, cond_false, hD]
    rw [if_neg (by omega)]
    have e : (fun j => if i ≤ j ∧ j < z then D (p + 1) j else D (o + 1) j) = D (o + 1) := by
      funext j
      rw [if_neg (by omega)]
    rw [e, rg_up_i]
  | k + 1, i, D, hk, hD, hD2 => by
    rw [rf_e_R_becomes_18]
    simp only [rg_row_gI hr, rg_hp1, rg_row_o hr, rg_row_o hp', Int.reduceToNat, rg_kIs, rg_kLs, rg_kRs, rg_kVs, rg_nns, rg_bs, cond_true, cond_false, hD]
    rw [if_pos (by omega), rg_R_cellI hp' (d + 1) (by omega) (by omega) (by omega)]
    simp only [rg_hp1, rg_row_o hr, Int.reduceToNat, rg_kIs, rg_kLs, rg_kRs, rg_kVs, rg_nns, rg_bs, cond_true, cond_false]
    rw [rg_R_setI hr d (by omega) (by omega) (by omega)]
    simp only [Int.reduceToNat, rg_kIs, rg_kLs, rg_kRs, rg_kVs, rg_nns, rg_bs, cond_true, cond_false]
    rw [rg_w (by omega) (by omega)]
    have e1 : ((i : Int) + 1) = ((i + 1 : Nat) : Int) := by omega
    rw [e1, rg_R_becomes_loop hr hp' hne hne1 hne2 d z hz hz2 hn k (i + 1) _ (by omega) (by rw [rg_up_n (by omega)]; exact hD) (by rw [rg_up_n (by omega)]; exact hD2)]
    congr 3
    rw [rg_up_u, rg_up_s, rg_up_n (by omega)]
    congr 1
    funext j
    unfold rg_ui
    have e2 : ((i : Int)).toNat = i := by omega
    rw [e2]
    by_cases h1 : i + 1 ≤ j ∧ j < z
    · rw [if_pos h1, if_pos (by omega)]
    · rw [if_neg h1]
      by_cases h2 : j = i
      · rw [if_pos h2, if_pos (by omega), h2]
      · rw [if_neg h2, if_neg (by omega)]
theorem rg_R_becomes {p m : Nat} (hr : rg_row o n) (hp' : rg_row p m) (hne : p ≠ o) (hne1 : p + 1 ≠ o) (hne2 : p ≠ o + 1) (d : Nat) (hn : n ≤ 100000) (h1 : 0 ≤ D p 1) (h2 : D p 1 ≤ (n : Int)) (h3 : D p 1 ≤ (m : Int)) : rf_call (d + 3) 12 [.inr (.inr (some o)), .inr (.inr (some p))] (hp X D) = some (none, hp X (rg_up (rg_up D o (rg_ui (D o) 1 (D p 1))) (o + 1) (fun j => if (j : Int) < D p 1 then D (p + 1) j else D (o + 1) j))) := by
  rw [rf_e_R_becomes]
  simp only [rg_row_gI hp', rg_row_gR hr, rg_row_aL hr, rg_J_min, Int.reduceToNat, rg_kIs, rg_kLs, rg_kRs, rg_kVs, rg_nns, rg_bs, cond_true, cond_false]
  have e0 : (if (n : Int) < D p 1 then (n : Int) else D p 1) = D p 1 := by split <;> omega
  rw [e0]
  simp only [rg_row_pI hr, Int.reduceToNat, rg_kIs, rg_kLs, rg_kRs, rg_kVs, rg_nns, rg_bs, cond_true, cond_false]
  obtain ⟨z, hz⟩ := Int.eq_ofNat_of_zero_le h1
  rw [hz]
  have hl := rg_R_becomes_loop (X := X) hr hp' hne hne1 hne2 d z (by omega) (by omega) hn z 0 (rg_up D o (rg_ui (D o) 1 (z : Int))) (by omega) (by rw [rg_up_s, rg_ui_s]) (by rw [rg_up_n hne]; exact hz)
  rw [show ((0 : Nat) : Int) = 0 from rfl] at hl
  rw [hl]
  congr 4
  funext j
  rw [rg_up_n hne1, rg_up_n (show o + 1 ≠ o by omega)]
  by_cases h : j < z
  · rw [if_pos (by omega), if_pos (by omega)]
  · rw [if_neg (by omega), if_neg (by omega)]
/-- the sum of a row's cells, wrapped as longs are -/
def rg_sum (f : Nat → Int) : Nat → Int
  | 0 => 0
  | k + 1 => rf_wl (rg_sum f k + f k)
theorem rg_R_sum_loop (hr : rg_row o n) (d : Nat) (z : Nat) (hz : z ≤ n) (hn : n ≤ 100000) (hD : D o 1 = (z : Int)) : ∀ (k i : Nat), i + k = z → rf_j_R_sum_4 (d + 1) o (rg_sum (D (o + 1)) i) (i : Int) (hp X D) = some (some (.inr (.inl (rg_sum (D (o + 1)) z))), hp X D)
  | 0, i, hk => by
    rw [rf_e_R_sum_4]
    simp only [rg_row_gI hr, Int.reduceToNat, rg_kIs, rg_kLs, rg_kRs, rg_kVs, rg_nns, rg_bs, cond_true, cond_false, hD]
    rw [if_neg (by omega), show i = z by omega]
  | k + 1, i, hk => by
    rw [rf_e_R_sum_4]
    simp only [rg_row_gI hr, rg_hp1, rg_row_o hr, Int.reduceToNat, rg_kIs, rg_kLs, rg_kRs, rg_kVs, rg_nns, rg_bs, cond_true, cond_false, hD]
    rw [if_pos (by omega), rg_R_cellI hr d (by omega) (by omega) (by omega)]
    simp only [Int.reduceToNat, rg_kIs, rg_kLs, rg_kRs, rg_kVs, rg_nns, rg_bs, cond_true, cond_false]
    rw [rg_w (by omega) (by omega), show ((i : Int)).toNat = i by omega, show ((i : Int) + 1) = ((i + 1 : Nat) : Int) by omega]
    exact rg_R_sum_loop hr d z hz hn hD k (i + 1) (by omega)
theorem rg_R_sum (hr : rg_row o n) (d : Nat) (hn : n ≤ 100000) (h1 : 0 ≤ D o 1) (h2 : D o 1 ≤ (n : Int)) : rf_call (d + 2) 9 [.inr (.inr (some o))] (hp X D) = some (some (.inr (.inl (rg_sum (D (o + 1)) (D o 1).toNat))), hp X D) := by
  obtain ⟨z, hz⟩ := Int.eq_ofNat_of_zero_le h1
  rw [rf_e_R_sum]
  have hl := rg_R_sum_loop (X := X) hr d z (by omega) hn hz z 0 (by omega)
  rw [hz]
  exact hl
theorem rg_R_takes {p m : Nat} (hr : rg_row o n) (hp' : rg_row p m) (d : Nat) {i j k : Int} (a1 : -1 ≤ D o 1) (a2 : D o 1 ≤ (n : Int)) (a3 : -1 ≤ D p 1) (a4 : D p 1 ≤ (m : Int)) (hn : n ≤ 100000) (hm : m ≤ 100000) (hi : i ≤ 2147483647) (hj : j ≤ 2147483647) : rf_call (d + 2) 7 [.inr (.inr (some o)), .inr (.inr (some p)), .inl i, .inl j, .inl k] (hp X D) = some (if 0 ≤ i ∧ 0 ≤ j ∧ 0 ≤ k ∧ i + k ≤ D p 1 ∧ j + k ≤ D o 1 then (some (.inl 1), hp X (rf_cpD D (p + 1) i.toNat (o + 1) j.toNat k.toNat)) else (some (.inl 0), hp X D)) := by
  rw [rf_e_R_takes]
  simp only [rg_hp1, rg_row_o hr, rg_row_o hp', Int.reduceToNat, rg_kIs, rg_kLs, rg_kRs, rg_kVs, rg_nns, rg_bs, cond_true, cond_false]
  rw [rg_R_spans hp' d a3 (by omega) hi]
  simp only [rg_hp1, rg_row_o hr, Int.reduceToNat, rg_kIs, rg_kLs, rg_kRs, rg_kVs, rg_nns, rg_bs, cond_true, cond_false]
  by_cases b1 : 0 ≤ i ∧ 0 ≤ k ∧ i + k ≤ D p 1
  · simp only [if_pos b1]
    rw [if_neg (by decide), rg_R_spans hr d a1 (by omega) hj]
    simp only [Int.reduceToNat, rg_kIs, rg_kLs, rg_kRs, rg_kVs, rg_nns, rg_bs, cond_true, cond_false]
    by_cases b2 : 0 ≤ j ∧ 0 ≤ k ∧ j + k ≤ D o 1
    · simp only [if_pos b2]
      rw [if_neg (by decide), if_pos (by omega)]
      simp only [rg_row_gR hr, rg_row_gR hp', Int.reduceToNat, rg_kIs, rg_kLs, rg_kRs, rg_kVs, rg_nns, rg_bs, cond_true, cond_false]
      rw [rg_cp hp'.2.2.1 hr.2.2.1 (by omega) (by omega) (by omega) (by omega) (by omega)]
      rfl
    · simp only [if_neg b2]
      rw [if_neg (show ¬ (0 ≤ i ∧ 0 ≤ j ∧ 0 ≤ k ∧ i + k ≤ D p 1 ∧ j + k ≤ D o 1) by omega)]
      rfl
  · simp only [if_neg b1]
    rw [if_neg (show ¬ (0 ≤ i ∧ 0 ≤ j ∧ 0 ≤ k ∧ i + k ≤ D p 1 ∧ j + k ≤ D o 1) by omega)]
    rfl
end RGROW
