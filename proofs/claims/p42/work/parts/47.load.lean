/-! load -/
theorem E37.load {u s : Nat → Int} (h : E37 u s) {n : Nat} (hn : n ≤ 7) : sp_load u n = sp_load s n := by
  have e := pt_load (s := s) (w := u) hn
  rw [← pt_E h] at e
  exact e
section RGS11
variable {X : rf_X} {D : rf_D}
end RGS11
