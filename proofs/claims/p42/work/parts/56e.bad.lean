/-! bad -/
section RGS23e
variable {X : rf_X} {D : rf_D}

def ba_r (s : Nat → Int) (j : Nat) : Int := s (3 + (Int.tmod (s 34 + (j : Int)) (s 2)).toNat)
def ba_v (s : Nat → Int) : Nat → Int × Int
  | 0 => (sp_grip s (ba_r s 0), s 34)
  | k + 1 => if sp_grip s (ba_r s (k + 1)) < (ba_v s k).1 then (sp_grip s (ba_r s (k + 1)), s 34 + ((k + 1 : Nat) : Int)) else ba_v s k
theorem ba_b {s : Nat → Int} (hd : sp_hd s) {m : Int} (hs : sp_st m s) (j : Nat) : (0 ≤ ba_r s j ∧ ba_r s j ≤ 2) ∧ (0 ≤ sp_grip s (ba_r s j) ∧ sp_grip s (ba_r s j) ≤ 30) ∧ (0 ≤ Int.tmod (s 34 + (j : Int)) (s 2) ∧ Int.tmod (s 34 + (j : Int)) (s 2) < s 2) := by
  have a2 := hd.2.2.1
  have a34 := hs.2.2.2.2.2.2.2.1
  have b1 : 0 ≤ Int.tmod (s 34 + (j : Int)) (s 2) := Int.tmod_nonneg _ (by omega)
  have b2 : Int.tmod (s 34 + (j : Int)) (s 2) < s 2 := Int.tmod_lt_of_pos _ (by omega)
  have k := hd.2.2.2.1 (Int.tmod (s 34 + (j : Int)) (s 2)).toNat (by omega)
  have r : 0 ≤ ba_r s j ∧ ba_r s j ≤ 2 := k
  exact ⟨r, (sp_gb hd hs r.1 r.2).2, b1, b2⟩
theorem ba_0 {s : Nat → Int} (hd : sp_hd s) {m : Int} (hs : sp_st m s) : sp_rail s = ba_r s 0 := by
  have b := (ba_b hd hs 0).2.2.1
  unfold sp_rail ba_r
  rw [show s 34 + ((0 : Nat) : Int) = s 34 from Int.add_zero _] at *
  rw [show (3 + Int.tmod (s 34) (s 2)).toNat = 3 + (Int.tmod (s 34) (s 2)).toNat by omega]
theorem ba_x5 {a : Int} (h0 : 0 ≤ a) (h1 : a ≤ 2000) : rf_w (a + 0) = a := by
  rw [Int.add_zero, rg_w (by omega) (by omega)]
theorem ba_r0 (s : Nat → Int) : ba_r s 0 = s (3 + (Int.tmod (s 34) (s 2)).toNat) := by
  unfold ba_r
  rw [show s 34 + ((0 : Nat) : Int) = s 34 from Int.add_zero _]
theorem ba_x2 {i : Nat} (h : i ≤ 100) : rf_w (((i + 1 : Nat) : Int) + 1) = ((i + 1 + 1 : Nat) : Int) := by
  rw [rg_w (by omega) (by omega)]
  omega
theorem ba_x3 {a : Int} {i : Nat} (h0 : 0 ≤ a) (h1 : a ≤ 2000) (h : i ≤ 100) : rf_w (a + ((i + 1 : Nat) : Int)) = a + ((i + 1 : Nat) : Int) := rg_w (by omega) (by omega)
theorem ba_x4 {a : Int} (h0 : 0 ≤ a) (h1 : a ≤ 2000) : rf_w (3 + a) = 3 + a := rg_w (by omega) (by omega)
section RGS24
variable {s : Nat → Int} {W m : Int}
theorem rg_W_bad_42 (hC : CR D 28 s W) (hd : sp_hd s) (hT : TR (D 43) s 0) (hs : sp_st m s) (hm : m ≤ 1000) (d : Nat) {N : Nat} (hN : s 2 = ((N + 1 : Nat) : Int)) : ∀ (k i : Nat), i + k = N → rf_j_W_bad_42 (d + 3) 0 (ba_v s i).2 (ba_v s i).1 ((i + 1 : Nat) : Int) (hp X D) = some (some (.inl (ba_v s N).2), hp X (wtl (ba_v s N).1 D))
  | 0, i, hk => by
    have c3 : D 29 1 = s 2 := hC.1.2.2
    rw [rf_e_W_bad_42]
    try simp only [rg_gR_0_9, rg_gR_28_0, rg_row_gI rg_row_29, Int.reduceToNat, rg_kIs, rg_kLs, rg_kRs, rg_kVs, rg_nns, rg_bs, cond_true, cond_false]
    rw [c3, if_neg (by omega)]
    try simp only [rg_hp1, rg_o_0, Int.reduceToNat, rg_kIs, rg_kLs, rg_kRs, rg_kVs, rg_nns, rg_bs, cond_true, cond_false]
    rw [rg_W_tell, show i = N by omega]
    try simp only [Int.reduceToNat, rg_kIs, rg_kLs, rg_kRs, rg_kVs, rg_nns, rg_bs, cond_true, cond_false]
  | k + 1, i, hk => by
    have c3 : D 29 1 = s 2 := hC.1.2.2
    have a2 := hd.2.2.1
    have a34 := hs.2.2.2.2.2.2.2.1
    have b := ba_b hd hs (i + 1)
    have ih := rg_W_bad_42 hC hd hT hs hm d hN k (i + 1) (by omega)
    have y34 : 0 ≤ s 34 ∧ s 34 ≤ 2000 := by omega
    have yi : i ≤ 100 := by omega
    have ra := rg_C_railAt (X := X) (D := D) rg_con_28 (d + 1) (i := s 34 + ((i + 1 : Nat) : Int)) (by omega) (by omega) (by rw [show D (28 + 1) 1 = s 2 from c3]; omega) (by rw [show D (28 + 1) 1 = s 2 from c3]; omega)
    rw [show D (28 + 1) 1 = s 2 from c3] at ra
    have rr : D (28 + 2) (Int.tmod (s 34 + ((i + 1 : Nat) : Int)) (s 2)).toNat = ba_r s (i + 1) := hC.2.1 _ (by omega)
    rw [rr] at ra
    have gr := rg_T_gripOn (X := X) (D := D) rg_tr_43 hC hd hs (d + 1) (b := D 43 9) b.1.1 b.1.2 hT.1.2.2
    rw [hT.2.1.1, sp_gripb hd hs b.1.1 b.1.2] at gr
    have e : ba_v s (i + 1) = (if sp_grip s (ba_r s (i + 1)) < (ba_v s i).1 then (sp_grip s (ba_r s (i + 1)), s 34 + ((i + 1 : Nat) : Int)) else ba_v s i) := rfl
    rw [e] at ih
    rw [rf_e_W_bad_42]
    try simp only [rg_gR_0_9, rg_gR_28_0, rg_row_gI rg_row_29, Int.reduceToNat, rg_kIs, rg_kLs, rg_kRs, rg_kVs, rg_nns, rg_bs, cond_true, cond_false]
    rw [c3, if_pos (by omega)]
    try simp only [rg_gR_0_9, rg_gR_0_10, rg_T_gI rg_tr_43, rg_hp1, rg_con_28.1, Int.reduceToNat, rg_kIs, rg_kLs, rg_kRs, rg_kVs, rg_nns, rg_bs, cond_true, cond_false]
    rw [hT.2.2.2.1, ba_x3 y34.1 y34.2 yi, ra]
    try simp only [rg_gR_0_10, rg_T_gI rg_tr_43, rg_hp1, rg_tr_43.1, Int.reduceToNat, rg_kIs, rg_kLs, rg_kRs, rg_kVs, rg_nns, rg_bs, cond_true, cond_false]
    rw [hT.2.1.1, gr]
    try simp only [Int.reduceToNat, rg_kIs, rg_kLs, rg_kRs, rg_kVs, rg_nns, rg_bs, cond_true, cond_false, ba_x2 yi]
    by_cases c : sp_grip s (ba_r s (i + 1)) < (ba_v s i).1
    · rw [if_pos c] at ih ⊢
      try simp only [rg_gR_0_10, rg_T_gI rg_tr_43, Int.reduceToNat, rg_kIs, rg_kLs, rg_kRs, rg_kVs, rg_nns, rg_bs, cond_true, cond_false]
      rw [hT.2.2.2.1, ba_x3 y34.1 y34.2 yi]
      exact ih
    · rw [if_neg c] at ih ⊢
      exact ih
end RGS24
end RGS23e
