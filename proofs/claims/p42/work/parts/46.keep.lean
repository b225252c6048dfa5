/-! keep and on -/
section RGS9
variable {X : rf_X} {D : rf_D}
theorem rg_keptN {K : Nat} (h : K < 3) : rg_row (64 + 2 * K) 60 ∧ rf_aR (hp X D) 3 (K : Int) = some (some (64 + 2 * K)) := by
  have e := rg_row_kept (X := X) (D := D) (i := (K : Int)) (by omega) (by omega)
  rw [rg_tN] at e
  exact e
end RGS9
