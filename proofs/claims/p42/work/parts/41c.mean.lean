/-! The mean of a row, a copy, a text's fault; what is read off. -/
theorem rg_wl {z : Int} (h1 : -9223372036854775808 ≤ z) (h2 : z < 9223372036854775808) : rf_wl z = z := by unfold rf_wl; omega
def I32 (z : Int) : Prop := -2147483648 ≤ z ∧ z ≤ 2147483647
theorem rg_sum_of {f g : Nat → Int} : ∀ {z : Nat}, (∀ j, j < z → f j = g j) → rg_sum f z = rg_sum g z
  | 0, _ => rfl
  | z + 1, h => by
    show rf_wl (rg_sum f z + f z) = rf_wl (rg_sum g z + g z)
    rw [rg_sum_of fun j hj => h j (by omega), h z (by omega)]
section RGS4
variable {X : rf_X} {D : rf_D}
end RGS4
