/-! The heap behind the constructor. -/
def rg_X0 : rf_X := fun _ => (0, fun _ => 0)
def rg_h0 (X : rf_X) : rf_H := ([], fun _ _ => 0, fun _ _ => none, X)
def rg_q1 : Option rf_R := rf_cF 2000 30 53 [.inr (.inr (some 0))] (rf_nw (rg_h0 rg_X0) (.inl 4))
def rg_r1 : rf_R := rg_q1.getD (none, rg_h0 rg_X0)
def rg_P : rf_P := rg_r1.2.2.2.1
def rg_D0 : rf_D := rg_r1.2.2.1
def rg_nov (r : rf_R) : Bool := match r.1 with
  | none => true
  | _ => false
def rg_T : List rf_Sh := [.inl 4, .inr (2, 6), .inr (2, 4), .inr (2, 3), .inl 2, .inr (0, 60), .inl 2, .inr (0, 6), .inl 2, .inr (0, 4), .inl 2, .inr (0, 3), .inl 1, .inl 0, .inl 2, .inr (0, 6), .inl 2, .inr (0, 6), .inl 2, .inr (0, 6), .inl 2, .inr (0, 6), .inl 2, .inr (0, 6), .inl 2, .inr (0, 7), .inl 2, .inr (0, 7), .inl 0, .inl 2, .inr (0, 6), .inl 2, .inr (0, 6), .inl 2, .inr (0, 6), .inl 2, .inr (0, 6), .inl 2, .inr (0, 6), .inl 2, .inr (0, 7), .inl 2, .inr (0, 7), .inl 3, .inl 2, .inr (0, 40), .inl 2, .inr (0, 40), .inl 2, .inr (0, 40), .inl 2, .inr (0, 40), .inl 2, .inr (0, 40), .inl 2, .inr (0, 40), .inl 2, .inr (0, 60), .inl 2, .inr (0, 60), .inl 2, .inr (0, 60), .inl 2, .inr (0, 60), .inl 2, .inr (0, 60), .inl 2, .inr (0, 60), .inl 2, .inr (0, 60), .inl 3, .inl 3, .inl 3, .inl 3, .inl 3, .inl 3, .inl 3]
def rg_PL0 : List (Nat × Nat × Option Nat) := [(0, 0, some 1), (0, 1, some 2), (0, 2, some 3), (0, 3, some 4), (0, 4, some 6), (0, 5, some 8), (0, 6, some 10), (0, 7, some 12)]
def rg_PL1 : List (Nat × Nat × Option Nat) := [(0, 8, some 13), (0, 9, some 28), (0, 10, some 43), (0, 11, some 76), (1, 0, some 44), (1, 1, some 46), (1, 2, some 48), (1, 3, some 50)]
def rg_PL2 : List (Nat × Nat × Option Nat) := [(1, 4, some 52), (1, 5, some 54), (2, 0, some 56), (2, 1, some 58), (2, 2, some 60), (2, 3, some 62), (3, 0, some 64), (3, 1, some 66)]
def rg_PL3 : List (Nat × Nat × Option Nat) := [(3, 2, some 68), (4, 0, some 5), (6, 0, some 7), (8, 0, some 9), (10, 0, some 11), (13, 0, some 14), (13, 1, some 16), (13, 2, some 18)]
def rg_PL4 : List (Nat × Nat × Option Nat) := [(13, 3, some 20), (13, 4, some 22), (13, 5, some 24), (13, 6, some 26), (14, 0, some 15), (16, 0, some 17), (18, 0, some 19), (20, 0, some 21)]
def rg_PL5 : List (Nat × Nat × Option Nat) := [(22, 0, some 23), (24, 0, some 25), (26, 0, some 27), (28, 0, some 29), (28, 1, some 31), (28, 2, some 33), (28, 3, some 35), (28, 4, some 37)]
def rg_PL6 : List (Nat × Nat × Option Nat) := [(28, 5, some 39), (28, 6, some 41), (29, 0, some 30), (31, 0, some 32), (33, 0, some 34), (35, 0, some 36), (37, 0, some 38), (39, 0, some 40)]
def rg_PL7 : List (Nat × Nat × Option Nat) := [(41, 0, some 42), (43, 0, some 28), (43, 1, none), (44, 0, some 45), (46, 0, some 47), (48, 0, some 49), (50, 0, some 51), (52, 0, some 53)]
def rg_PL8 : List (Nat × Nat × Option Nat) := [(54, 0, some 55), (56, 0, some 57), (58, 0, some 59), (60, 0, some 61), (62, 0, some 63), (64, 0, some 65), (66, 0, some 67), (68, 0, some 69)]
def rg_PL9 : List (Nat × Nat × Option Nat) := [(70, 0, some 28), (70, 1, none), (71, 0, some 28), (71, 1, some 70), (72, 0, some 28), (72, 1, some 71), (73, 0, some 28), (73, 1, some 72)]
def rg_PL10 : List (Nat × Nat × Option Nat) := [(74, 0, some 28), (74, 1, some 73), (75, 0, some 28), (75, 1, some 74), (76, 0, some 28), (76, 1, some 75)]
def rg_DL0 : List (Nat × Nat × Int) := [(44, 1, -1), (46, 1, -1), (48, 1, -1), (50, 1, -1), (52, 1, -1), (54, 1, -1), (56, 1, -1), (58, 1, -1)]
def rg_DL1 : List (Nat × Nat × Int) := [(60, 1, -1), (62, 1, -1), (64, 1, -1), (66, 1, -1), (68, 1, -1), (4, 1, 0), (6, 1, 6), (8, 1, 4)]
def rg_DL2 : List (Nat × Nat × Int) := [(10, 1, 3), (7, 0, 0), (7, 1, 0), (7, 2, 0), (7, 3, 0), (7, 4, 0), (7, 5, 0), (28, 7, 0)]
def rg_DL3 : List (Nat × Nat × Int) := [(28, 8, 0), (28, 9, 0), (28, 10, 0), (29, 1, 0), (31, 1, 0), (33, 1, 0), (35, 1, 0), (37, 1, 0)]
def rg_DL4 : List (Nat × Nat × Int) := [(39, 1, 1), (41, 1, 1), (40, 0, 0), (42, 0, 0), (43, 2, 0), (43, 3, 0), (43, 4, 0), (43, 5, 0)]
def rg_DL5 : List (Nat × Nat × Int) := [(43, 6, 0), (43, 7, 0), (43, 8, 0), (43, 9, 0), (43, 10, 0), (43, 11, 0), (0, 12, 0), (0, 13, 0)]
def rg_DL6 : List (Nat × Nat × Int) := [(0, 14, 0), (0, 15, 1), (0, 16, 0)]
set_option maxRecDepth 100000 in
theorem rg_ok1 : rg_q1.isSome = true := by decide +kernel
set_option maxRecDepth 100000 in
theorem rg_ok1a : rg_nov rg_r1 = true := by decide +kernel
set_option maxRecDepth 100000 in
theorem rg_ok1b : decide (rg_r1.2.1 = rg_T) = true := by decide +kernel
