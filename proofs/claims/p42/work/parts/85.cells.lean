/-! The law's own heap, and its own small methods. -/
theorem pq_msb {y : Int} (hy : 0 ≤ y) (hy2 : y < 2147483648) : (Int32.ofInt y).toBitVec.msb = false := by
  have ey : (Int32.ofInt y).toInt = y := rf_t32 ⟨by omega, hy2⟩
  rw [BitVec.msb_eq_toInt]
  show decide ((Int32.ofInt y).toInt < 0) = false
  rw [ey]
  exact decide_eq_false (by omega)
theorem pq_and {x y : Int} (hy : 0 ≤ y) (hy2 : y < 2147483648) : 0 ≤ rf_and x y ∧ rf_and x y ≤ y := by
  have ey : (Int32.ofInt y).toInt = y := rf_t32 ⟨by omega, hy2⟩
  have my := pq_msb hy hy2
  have mz : ((Int32.ofInt x).toBitVec &&& (Int32.ofInt y).toBitVec).msb = false := by rw [BitVec.msb_and, my, Bool.and_false]
  have ny := BitVec.toInt_eq_toNat_of_msb my
  have nz := BitVec.toInt_eq_toNat_of_msb mz
  have le : ((Int32.ofInt x).toBitVec &&& (Int32.ofInt y).toBitVec).toNat ≤ (Int32.ofInt y).toBitVec.toNat := by
    rw [BitVec.toNat_and]
    exact Nat.and_le_right
  have e1 : (Int32.ofInt y).toBitVec.toInt = y := ey
  have e2 : rf_and x y = ((Int32.ofInt x).toBitVec &&& (Int32.ofInt y).toBitVec).toInt := rfl
  rw [e2, nz]
  rw [e1] at ny
  omega
theorem pq_shr {x : Int} (hx : 0 ≤ x) (hx2 : x < 2147483648) (k : Int) : 0 ≤ rf_shr x k ∧ rf_shr x k ≤ x := by
  have ex : (Int32.ofInt x).toBitVec.toInt = x := rf_t32 ⟨by omega, hx2⟩
  obtain ⟨n, hn⟩ : ∃ n : Nat, rf_shr x k = ((Int32.ofInt x).toBitVec.sshiftRight n).toInt := ⟨_, rfl⟩
  rw [hn, BitVec.toInt_sshiftRight, ex, Int.shiftRight_eq_div_pow]
  have p : (0 : Int) < ((2 ^ n : Nat) : Int) := by
    have := Nat.pow_pos (n := n) (show 0 < 2 by decide)
    omega
  exact ⟨Int.ediv_nonneg hx (by omega), Int.ediv_le_self _ hx⟩
theorem pq_tm {x y : Int} (hx : 0 ≤ x) (hy : 1 ≤ y) : 0 ≤ Int.tmod x y ∧ Int.tmod x y < y := ⟨Int.tmod_nonneg _ hx, Int.tmod_lt_of_pos _ (by omega)⟩
theorem pq_lt {z n k : Int} (h : 0 ≤ z ∧ z < n) (e : n = k + 1) : 0 ≤ z ∧ z ≤ k := ⟨h.1, by omega⟩
theorem pq_lt1 {z n : Int} (h : 0 ≤ z ∧ z < n) : 1 ≤ 1 + z ∧ 1 + z ≤ n := ⟨by omega, by omega⟩
theorem pq_rw {z a b : Int} (h : a ≤ z ∧ z ≤ b) (ha : -1000000 ≤ a) (hb : b ≤ 1000000) : rf_w z = z := rg_w (by omega) (by omega)
/-! the script's cells as the law takes them -/
def lc_cl (X : rf_X) (k : Int) : Int := rf_and (if k < ((X 0).1 : Int) then (X 0).2 k.toNat else rf_w (rf_w (15485957 * k) + 107)) 2147483647
def lc_rs (X : rf_X) : Int := 1 + Int.tmod (lc_cl X 0) 6
def lc_ra (X : rf_X) (t : Int) : Int := Int.tmod (rf_and (rf_shr (lc_cl X 1) (rf_w (3 * Int.tmod t (lc_rs X)))) 7) 3
def lc_fi (X : rf_X) (w : Int) : Int := if w = 0 then 1 + Int.tmod (lc_cl X 2) 9 else if w = 1 then Int.tmod (rf_shr (lc_cl X 2) 4) 10 else if w = 2 then Int.tmod (rf_shr (lc_cl X 2) 8) 10 else rf_and (rf_shr (lc_cl X 2) 12) 3 * Int.tmod (rf_shr (lc_cl X 2) 14) 2
def lc_ws (X : rf_X) : Int := Int.tmod (lc_cl X 3) 6
def lc_wa (X : rf_X) (i w : Int) : Int := if w = 0 then Int.tmod (lc_cl X (4 + i)) 6 else if w = 1 then 1 + Int.tmod (rf_shr (lc_cl X (4 + i)) 4) (if Int.tmod (rf_shr (lc_cl X (4 + i)) 16) 2 = 0 then 9 else 3) else 1 + Int.tmod (rf_shr (lc_cl X (4 + i)) 8) 9
theorem lc_cl_b (X : rf_X) (k : Int) : 0 ≤ lc_cl X k ∧ lc_cl X k < 2147483648 := by
  have := pq_and (x := if k < ((X 0).1 : Int) then (X 0).2 k.toNat else rf_w (rf_w (15485957 * k) + 107)) (y := 2147483647) (by decide) (by decide)
  unfold lc_cl
  exact ⟨this.1, Int.lt_of_le_of_lt this.2 (by decide)⟩
theorem lc_rs_b (X : rf_X) : 1 ≤ lc_rs X ∧ lc_rs X ≤ 6 := pq_lt1 (pq_tm (x := lc_cl X 0) (y := 6) (lc_cl_b X 0).1 (by decide))
theorem lc_ra_b (X : rf_X) (t : Int) : 0 ≤ lc_ra X t ∧ lc_ra X t ≤ 2 := by
  have a := pq_and (x := rf_shr (lc_cl X 1) (rf_w (3 * Int.tmod t (lc_rs X)))) (y := 7) (by decide) (by decide)
  exact pq_lt (pq_tm (x := rf_and (rf_shr (lc_cl X 1) (rf_w (3 * Int.tmod t (lc_rs X)))) 7) (y := 3) a.1 (by decide)) (by decide)
theorem lc_ra_m (X : rf_X) {t : Int} (h : 0 ≤ t) : lc_ra X (Int.tmod t (lc_rs X)) = lc_ra X t := by
  have b := lc_rs_b X
  have e : Int.tmod (Int.tmod t (lc_rs X)) (lc_rs X) = Int.tmod t (lc_rs X) := by
    have c := pq_tm h b.1
    exact Int.tmod_eq_of_lt c.1 c.2
  unfold lc_ra
  rw [e]
theorem lc_f0 (X : rf_X) : lc_fi X 0 = 1 + Int.tmod (lc_cl X 2) 9 := if_pos rfl
theorem lc_f1 (X : rf_X) : lc_fi X 1 = Int.tmod (rf_shr (lc_cl X 2) 4) 10 := by
  unfold lc_fi
  rw [if_neg (by decide), if_pos rfl]
theorem lc_f2 (X : rf_X) : lc_fi X 2 = Int.tmod (rf_shr (lc_cl X 2) 8) 10 := by
  unfold lc_fi
  rw [if_neg (by decide), if_neg (by decide), if_pos rfl]
theorem lc_f3 (X : rf_X) {w : Int} (h0 : ¬ w = 0) (h1 : ¬ w = 1) (h2 : ¬ w = 2) : lc_fi X w = rf_and (rf_shr (lc_cl X 2) 12) 3 * Int.tmod (rf_shr (lc_cl X 2) 14) 2 := by
  unfold lc_fi
  rw [if_neg h0, if_neg h1, if_neg h2]
theorem lc_fi_0 (X : rf_X) : 1 ≤ lc_fi X 0 ∧ lc_fi X 0 ≤ 9 := by
  rw [lc_f0]
  exact pq_lt1 (pq_tm (x := lc_cl X 2) (y := 9) (lc_cl_b X 2).1 (by decide))
theorem lc_fi_1 (X : rf_X) : 0 ≤ lc_fi X 1 ∧ lc_fi X 1 ≤ 9 := by
  have c := lc_cl_b X 2
  rw [lc_f1]
  exact pq_lt (pq_tm (x := rf_shr (lc_cl X 2) 4) (y := 10) (pq_shr c.1 c.2 4).1 (by decide)) (by decide)
theorem lc_fi_2 (X : rf_X) : 0 ≤ lc_fi X 2 ∧ lc_fi X 2 ≤ 9 := by
  have c := lc_cl_b X 2
  rw [lc_f2]
  exact pq_lt (pq_tm (x := rf_shr (lc_cl X 2) 8) (y := 10) (pq_shr c.1 c.2 8).1 (by decide)) (by decide)
theorem pq_mul {u v : Int} (hu : 0 ≤ u ∧ u ≤ 3) (hv : 0 ≤ v ∧ v < 2) : 0 ≤ u * v ∧ u * v ≤ 3 := by
  have h : v = 0 ∨ v = 1 := by omega
  rcases h with h | h <;> rw [h]
  · rw [Int.mul_zero]
    exact ⟨by decide, by decide⟩
  · rw [Int.mul_one]
    exact hu
theorem lc_fi_3 (X : rf_X) {w : Int} (h0 : ¬ w = 0) (h1 : ¬ w = 1) (h2 : ¬ w = 2) : 0 ≤ lc_fi X w ∧ lc_fi X w ≤ 3 := by
  have c := lc_cl_b X 2
  rw [lc_f3 X h0 h1 h2]
  exact pq_mul (pq_and (x := rf_shr (lc_cl X 2) 12) (y := 3) (by decide) (by decide)) (pq_tm (x := rf_shr (lc_cl X 2) 14) (y := 2) (pq_shr c.1 c.2 14).1 (by decide))
theorem lc_ws_b (X : rf_X) : 0 ≤ lc_ws X ∧ lc_ws X ≤ 5 := pq_lt (pq_tm (x := lc_cl X 3) (y := 6) (lc_cl_b X 3).1 (by decide)) (by decide)
theorem lc_w0 (X : rf_X) (i : Int) : lc_wa X i 0 = Int.tmod (lc_cl X (4 + i)) 6 := if_pos rfl
theorem lc_w1 (X : rf_X) (i : Int) : lc_wa X i 1 = 1 + Int.tmod (rf_shr (lc_cl X (4 + i)) 4) (if Int.tmod (rf_shr (lc_cl X (4 + i)) 16) 2 = 0 then 9 else 3) := by
  unfold lc_wa
  rw [if_neg (by decide), if_pos rfl]
theorem lc_w2 (X : rf_X) (i : Int) {w : Int} (h0 : ¬ w = 0) (h1 : ¬ w = 1) : lc_wa X i w = 1 + Int.tmod (rf_shr (lc_cl X (4 + i)) 8) 9 := by
  unfold lc_wa
  rw [if_neg h0, if_neg h1]
theorem lc_wa_0 (X : rf_X) (i : Int) : 0 ≤ lc_wa X i 0 ∧ lc_wa X i 0 ≤ 5 := by
  rw [lc_w0]
  exact pq_lt (pq_tm (x := lc_cl X (4 + i)) (y := 6) (lc_cl_b X (4 + i)).1 (by decide)) (by decide)
theorem pq_le {a b c d : Int} (h : a ≤ b ∧ b ≤ c) (e : c ≤ d) : a ≤ b ∧ b ≤ d := ⟨h.1, Int.le_trans h.2 e⟩
theorem lc_wa_1 (X : rf_X) (i : Int) : 1 ≤ lc_wa X i 1 ∧ lc_wa X i 1 ≤ 9 := by
  have c := lc_cl_b X (4 + i)
  have s := (pq_shr c.1 c.2 4).1
  rw [lc_w1]
  by_cases z : Int.tmod (rf_shr (lc_cl X (4 + i)) 16) 2 = 0
  · rw [if_pos z]
    exact pq_lt1 (pq_tm s (by decide))
  · rw [if_neg z]
    exact pq_le (pq_lt1 (pq_tm s (by decide))) (by decide)
theorem lc_wa_2 (X : rf_X) (i : Int) {w : Int} (h0 : ¬ w = 0) (h1 : ¬ w = 1) : 1 ≤ lc_wa X i w ∧ lc_wa X i w ≤ 9 := by
  have c := lc_cl_b X (4 + i)
  rw [lc_w2 X i h0 h1]
  exact pq_lt1 (pq_tm (pq_shr c.1 c.2 8).1 (by decide))
/-! the law's small methods, over any heap -/
section PQE
variable {h : rf_H} {X : rf_X}
theorem lq_cell (hX : h.2.2.2 = X) (d : Nat) {k : Int} (k0 : 0 ≤ k) : rf_call (d + 1) 115 [.inr (.inr (some 1000000)), .inl k] h = some (some (.inl (lc_cl X k)), h) := by
  obtain ⟨T, D, P, Y⟩ := h
  have hX : Y = X := hX
  subst hX
  have eL := rh_xL (X := Y) (T := T) (D := D) (P := P) (j := 0) (by decide)
  rw [Nat.add_zero] at eL
  rw [rf_e_L_cell, eL]
  simp only [rg_bs]
  unfold lc_cl
  by_cases a : k < ((Y 0).1 : Int)
  · have eI := rh_xI (X := Y) (T := T) (D := D) (P := P) (j := 0) (by decide) k0 a
    rw [Nat.add_zero] at eI
    rw [if_pos a, if_pos a, eI]
    simp only [rg_bs]
  · rw [if_neg a, if_neg a]
theorem lq_rails (hX : h.2.2.2 = X) (d : Nat) : rf_call (d + 2) 116 [.inr (.inr (some 1000000))] h = some (some (.inl (lc_rs X)), h) := by
  have b : 1 ≤ 1 + Int.tmod (lc_cl X 0) 6 ∧ 1 + Int.tmod (lc_cl X 0) 6 ≤ 6 := lc_rs_b X
  rw [rf_e_L_rails, lq_cell hX d (by decide)]
  simp only [rg_bs, rg_kIs]
  rw [pq_rw b (by decide) (by decide)]
  try rfl
theorem lq_rail (hX : h.2.2.2 = X) (d : Nat) (t : Int) : rf_call (d + 3) 117 [.inr (.inr (some 1000000)), .inl t] h = some (some (.inl (lc_ra X t)), h) := by
  have b : ¬ lc_rs X = 0 := fun z => by
    have := (lc_rs_b X).1
    rw [z] at this
    exact absurd this (by decide)
  rw [rf_e_L_rail, lq_cell hX (d + 1) (by decide)]
  simp only [rg_bs, rg_kIs]
  rw [lq_rails hX d]
  simp only [rg_bs, rg_kIs]
  rw [if_neg b]
  unfold lc_ra
  try rfl
theorem lq_first (hX : h.2.2.2 = X) (d : Nat) (w : Int) : rf_call (d + 2) 118 [.inr (.inr (some 1000000)), .inl w] h = some (some (.inl (lc_fi X w)), h) := by
  have b0 := lc_fi_0 X
  rw [lc_f0] at b0
  rw [rf_e_L_first, lq_cell hX d (by decide)]
  simp only [rg_bs, rg_kIs]
  by_cases a0 : w = 0
  · rw [if_pos a0, a0, lc_f0, pq_rw b0 (by decide) (by decide)]
  · rw [if_neg a0]
    by_cases a1 : w = 1
    · rw [if_pos a1, a1, lc_f1]
    · rw [if_neg a1]
      by_cases a2 : w = 2
      · rw [if_pos a2, a2, lc_f2]
      · have b3 := lc_fi_3 X a0 a1 a2
        rw [lc_f3 X a0 a1 a2] at b3 ⊢
        rw [if_neg a2, pq_rw b3 (by decide) (by decide)]
theorem lq_wagons (hX : h.2.2.2 = X) (d : Nat) : rf_call (d + 2) 119 [.inr (.inr (some 1000000))] h = some (some (.inl (lc_ws X)), h) := by
  rw [rf_e_L_wagons, lq_cell hX d (by decide)]
  simp only [rg_bs, rg_kIs]
  unfold lc_ws
  try rfl
theorem lq_wagon (hX : h.2.2.2 = X) (d : Nat) {i : Int} (i0 : 0 ≤ i) (i9 : i ≤ 9) (w : Int) : rf_call (d + 2) 120 [.inr (.inr (some 1000000)), .inl i, .inl w] h = some (some (.inl (lc_wa X i w)), h) := by
  have b1 := lc_wa_1 X i
  rw [lc_w1] at b1
  rw [rf_e_L_wagon, rg_w (z := 4 + i) (by omega) (by omega), lq_cell hX d (by omega)]
  simp only [rg_bs, rg_kIs]
  by_cases a0 : w = 0
  · rw [if_pos a0, a0, lc_w0]
  · rw [if_neg a0]
    by_cases a1 : w = 1
    · rw [if_pos a1, a1, lc_w1]
      by_cases a3 : Int.tmod (rf_shr (lc_cl X (4 + i)) 16) 2 = 0
      · rw [if_pos a3] at b1 ⊢
        rw [if_pos a3, pq_rw b1 (by decide) (by decide)]
      · rw [if_neg a3] at b1 ⊢
        rw [if_neg a3, pq_rw b1 (by decide) (by decide)]
    · have b2 := lc_wa_2 X i a0 a1
      rw [lc_w2 X i a0 a1] at b2 ⊢
      rw [if_neg a1, pq_rw b2 (by decide) (by decide)]
end PQE
/-! the class's calls over the law's heap -/
theorem pq_hl (X : rf_X) (D : rf_D) : (hp X D).1.length = 77 := by
  rw [rg_hp1]
  rfl
theorem pq_mg {P : rf_P} (hP : ∀ k i, k < 77 → P k i = rg_P k i) : (fun k i => if k < 77 then rg_P k i else P k i) = P := by
  funext k i
  by_cases z : k < 77
  · rw [if_pos z, hP k i z]
  · rw [if_neg z]
theorem pq_mE (E : List rf_Sh) {P : rf_P} (hP : ∀ k i, k < 77 → P k i = rg_P k i) (X : rf_X) (D : rf_D) : rf_mE E 77 P (hp X D) = (rg_T ++ E, D, P, X) := by
  unfold rf_mE hp
  dsimp only
  rw [pq_mg hP]
theorem pq_eR (E : List rf_Sh) (P : rf_P) (v : Option rf_V) (h : rf_H) : rf_eR E 77 P (v, h) = (v, rf_mE E 77 P h) := rfl
theorem pq_up {E : List rf_Sh} {P : rf_P} (hP : ∀ k i, k < 77 → P k i = rg_P k i) {X : rf_X} {D D' : rf_D} {d u : Nat} {as : List rf_V} {v : Option rf_V} (e : rf_call d u as (hp X D) = some (v, hp X D')) : rf_call d u as (rg_T ++ E, D, P, X) = some (v, (rg_T ++ E, D', P, X)) := by
  have l1 := pq_hl X D
  have l2 := pq_hl X D'
  have m1 := pq_mE E hP X D
  have m2 := pq_mE E hP X D'
  generalize hp X D = a at e l1 m1
  generalize hp X D' = b at e l2 m2
  have r := (rf_ecl E 77 P d u as a (v, b) (Nat.le_of_eq l1.symm) e).2 l2
  rw [pq_eR, m1, m2] at r
  exact r
