/-! plans counted by the reference: all levels; ways -/
section RGS37
variable {X : rf_X} {g M : Int}
theorem pn_st_2 {s : Nat → Int} (t : Nat) : pn_st s t 2 = s 2 := sp_does_hd s (t : Int) (sp_rail s) 2 (by decide)
end RGS37
section RGS38
variable {X : rf_X} {D : rf_D}
end RGS38
