/-! The reference's train: steam given, a thing done, the log. -/
section RGMG
variable {X : rf_X} {D : rf_D}
/-- the row so is the first 37 of the row now -/
def sp_first (f g : Nat → Int) (n : Nat) : Nat → Int := fun j => if j < n then g j else f j
/-- the row now behind a deed: the log has one more, the ten numbers are the new ones -/
def sp_log (A s' : Nat → Int) (n : Nat) : Nat → Int := fun j => if j = 37 then (n : Int) + 1 else if 27 ≤ j ∧ j < 37 then s' j else if 38 + 10 * n ≤ j ∧ j < 38 + 10 * n + 10 then A (27 + (j - (38 + 10 * n))) else A j
end RGMG
