/-! undo -/
section RGS8
variable {X : rf_X} {D : rf_D}
theorem ud_W {m k : Nat} {f' : Nat → Int} (d : Nat) (h4 : D 4 1 = (m : Int)) (hk : k ≤ m) (hA : rf_call (d + 7) 69 [.inr (.inr (some 0))] (hp X (rg_up D 4 (rg_ui (D 4) 1 (k : Int)))) = some (none, hp X (rg_up (rg_up D 4 (rg_ui (D 4) 1 (k : Int))) 43 f'))) : rf_call (d + 8) 79 [.inr (.inr (some 0)), .inl (k : Int)] (hp X D) = some (some (.inl (rf_w ((m : Int) - (k : Int)))), hp X (rg_up (rg_up D 4 (rg_ui (D 4) 1 (k : Int))) 43 f')) := by
  rw [rf_e_W_undo, if_neg (by omega)]
  try simp only [rg_gR_0_3, rg_row_gI rg_row_4, Int.reduceToNat, rg_kIs, rg_kLs, rg_kRs, rg_kVs, rg_nns, rg_bs, cond_true, cond_false]
  rw [if_neg (by omega)]
  try simp only [rg_gR_0_3, rg_hp1, rg_row_gI rg_row_4, rg_row_o rg_row_4, Int.reduceToNat, rg_kIs, rg_kLs, rg_kRs, rg_kVs, rg_nns, rg_bs, cond_true, cond_false]
  rw [rg_R_shorten rg_row_4 (d + 5) (by omega)]
  try simp only [rg_hp1, rg_o_0, Int.reduceToNat, rg_kIs, rg_kLs, rg_kRs, rg_kVs, rg_nns, rg_bs, cond_true, cond_false]
  rw [hA]
  try simp only [Int.reduceToNat, rg_kIs, rg_kLs, rg_kRs, rg_kVs, rg_nns, rg_bs, cond_true, cond_false]
  rw [h4]
end RGS8
