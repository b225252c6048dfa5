/-! Rows and texts: class and reference answer alike, and the invariant stays. -/
theorem rg_nzs (k : Nat) (A B : Option rf_R) : rf_nz (some k) A B = B := rfl
theorem rg_nzn (A B : Option rf_R) : rf_nz none A B = A := rfl
theorem rg_tN (n : Nat) : ((n : Int)).toNat = n := by omega
theorem rg_tl0 {D : rf_D} {k : Nat} (h : k ≠ 0) {f : Nat → Int} {v : Int} : rg_up (wtl v D) k f = wtl v (rg_up D k f) := by
  unfold wtl
  rw [rg_up_c h.symm, rg_up_n h.symm]
theorem wtl_n {D : rf_D} {v : Int} {k : Nat} (h : k ≠ 0) : wtl v D k = D k := rg_up_n h
section RGS2
variable {X : rf_X} {D : rf_D}

theorem rg_rowN {R : Nat} (h : R < 6) : rg_row (44 + 2 * R) 40 ∧ rf_aR (hp X D) 1 (R : Int) = some (some (44 + 2 * R)) := by
  have e := rg_row_rows (X := X) (D := D) (i := (R : Int)) (by omega) (by omega)
  rw [rg_tN] at e
  exact e
theorem rg_textN {R : Nat} (h : R < 4) : rg_row (56 + 2 * R) 60 ∧ rf_aR (hp X D) 2 (R : Int) = some (some (56 + 2 * R)) := by
  have e := rg_row_texts (X := X) (D := D) (i := (R : Int)) (by omega) (by omega)
  rw [rg_tN] at e
  exact e
end RGS2
