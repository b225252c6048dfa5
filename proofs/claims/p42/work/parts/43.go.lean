/-! A thing done: class and reference. -/
theorem E37.can {u s : Nat → Int} (h : E37 u s) (t : Int) : sp_can u t = sp_can s t := by
  have e := pt_can (s := s) (w := u) (t := t)
  rw [← pt_E h] at e
  exact e
theorem sp_first_E (f g : Nat → Int) : E37 (sp_first f g 37) g := fun _ hj => if_pos hj
theorem sp_log_hd {A s' : Nat → Int} {n j : Nat} (h : j < 27) : sp_log A s' n j = A j := by
  unfold sp_log
  rw [if_neg (by omega), if_neg (by omega), if_neg (by omega)]
theorem sp_log_st {A s' : Nat → Int} {n j : Nat} (h1 : 27 ≤ j) (h2 : j ≤ 36) : sp_log A s' n j = s' j := by
  unfold sp_log
  rw [if_neg (by omega), if_pos (by omega)]
section RGS6
variable {X : rf_X} {D : rf_D}
end RGS6
