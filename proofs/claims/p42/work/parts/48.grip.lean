/-! grip -/
theorem E37.grip {u s : Nat → Int} (h : E37 u s) (r : Int) : sp_grip u r = sp_grip s r := by
  have e := pt_grip (s := s) (w := u) (r := r)
  rw [← pt_E h] at e
  exact e
theorem sp_grip_1 {u : Nat → Int} {r : Int} : sp_grip (rg_ui u 30 1) r = rf_w (sp_bare u r + 3) := by
  unfold sp_grip
  rw [rg_ui_s, if_pos rfl]
  try rfl
theorem sp_bare_of {u s : Nat → Int} (h : E37 u s) (r : Int) : sp_bare u r = sp_bare s r := by
  unfold sp_bare
  rw [h 0 (by decide), h 29 (by decide)]
section RGS12
variable {X : rf_X} {D : rf_D}
end RGS12
