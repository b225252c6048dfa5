def RX0 : String := "WheelsSlip$Consist"
def TX0 : u_T := fun k => match k with
  | 0 => ("WheelsSlip$Consist", "rails", "LWheelsSlip$Row;", true)
  | 1 => ("WheelsSlip$Consist", "kinds", "LWheelsSlip$Row;", true)
  | 2 => ("WheelsSlip$Consist", "tons", "LWheelsSlip$Row;", true)
  | 3 => ("WheelsSlip$Consist", "couplings", "LWheelsSlip$Row;", true)
  | 4 => ("WheelsSlip$Consist", "spares", "LWheelsSlip$Row;", true)
  | 5 => ("WheelsSlip$Consist", "braked", "LWheelsSlip$Row;", true)
  | 6 => ("WheelsSlip$Consist", "unbraked", "LWheelsSlip$Row;", true)
  | 7 => ("WheelsSlip$Consist", "weight", "I", false)
  | 8 => ("WheelsSlip$Consist", "steam", "I", false)
  | 9 => ("WheelsSlip$Consist", "sand", "I", false)
  | _ => ("WheelsSlip$Consist", "hill", "I", false)
def tyX0 : Nat → FieldType := fun k => match k with
  | 0 => .object "WheelsSlip$Row"
  | 1 => .object "WheelsSlip$Row"
  | 2 => .object "WheelsSlip$Row"
  | 3 => .object "WheelsSlip$Row"
  | 4 => .object "WheelsSlip$Row"
  | 5 => .object "WheelsSlip$Row"
  | 6 => .object "WheelsSlip$Row"
  | 7 => .int
  | 8 => .int
  | 9 => .int
  | _ => .int
theorem nmX0 : ∀ a, a < 11 → ∀ b, b < 11 → a ≠ b → (TX0 a).2.1 ≠ (TX0 b).2.1 := by decide +kernel
theorem tyX0_ok : ∀ k, k < 11 → parseFieldDescriptor (TX0 k).2.2.1 = some (tyX0 k) := by decide +kernel
def RX2 : String := "WheelsSlip$Reader"
def TX2 : u_T := fun k => match k with
  | _ => ("WheelsSlip$Reader", "place", "I", false)
def tyX2 : Nat → FieldType := fun k => match k with
  | _ => .int
theorem nmX2 : ∀ a, a < 1 → ∀ b, b < 1 → a ≠ b → (TX2 a).2.1 ≠ (TX2 b).2.1 := by decide +kernel
theorem tyX2_ok : ∀ k, k < 1 → parseFieldDescriptor (TX2 k).2.2.1 = some (tyX2 k) := by decide +kernel
def RX3 : String := "WheelsSlip$Row"
def TX3 : u_T := fun k => match k with
  | 0 => ("WheelsSlip$Row", "cells", "[I", true)
  | _ => ("WheelsSlip$Row", "size", "I", false)
def tyX3 : Nat → FieldType := fun k => match k with
  | 0 => .array .int
  | _ => .int
theorem nmX3 : ∀ a, a < 2 → ∀ b, b < 2 → a ≠ b → (TX3 a).2.1 ≠ (TX3 b).2.1 := by decide +kernel
theorem tyX3_ok : ∀ k, k < 2 → parseFieldDescriptor (TX3 k).2.2.1 = some (tyX3 k) := by decide +kernel
def RX4 : String := "WheelsSlip$Train"
def TX4 : u_T := fun k => match k with
  | 0 => ("WheelsSlip$Train", "consist", "LWheelsSlip$Consist;", true)
  | 1 => ("WheelsSlip$Train", "next", "LWheelsSlip$Train;", true)
  | 2 => ("WheelsSlip$Train", "steam", "I", false)
  | 3 => ("WheelsSlip$Train", "sand", "I", false)
  | 4 => ("WheelsSlip$Train", "hollow", "I", false)
  | 5 => ("WheelsSlip$Train", "taken", "I", false)
  | 6 => ("WheelsSlip$Train", "wagons", "I", false)
  | 7 => ("WheelsSlip$Train", "gone", "I", false)
  | 8 => ("WheelsSlip$Train", "minute", "I", false)
  | 9 => ("WheelsSlip$Train", "sanded", "Z", false)
  | 10 => ("WheelsSlip$Train", "brakeOn", "Z", false)
  | _ => ("WheelsSlip$Train", "brakeLost", "Z", false)
def tyX4 : Nat → FieldType := fun k => match k with
  | 0 => .object "WheelsSlip$Consist"
  | 1 => .object "WheelsSlip$Train"
  | 2 => .int
  | 3 => .int
  | 4 => .int
  | 5 => .int
  | 6 => .int
  | 7 => .int
  | 8 => .int
  | 9 => .boolean
  | 10 => .boolean
  | _ => .boolean
theorem nmX4 : ∀ a, a < 12 → ∀ b, b < 12 → a ≠ b → (TX4 a).2.1 ≠ (TX4 b).2.1 := by decide +kernel
theorem tyX4_ok : ∀ k, k < 12 → parseFieldDescriptor (TX4 k).2.2.1 = some (tyX4 k) := by decide +kernel
def RX5 : String := "WheelsSlip"
def TX5 : u_T := fun k => match k with
  | 0 => ("WheelsSlip", "rows", "[LWheelsSlip$Row;", true)
  | 1 => ("WheelsSlip", "texts", "[LWheelsSlip$Row;", true)
  | 2 => ("WheelsSlip", "kept", "[LWheelsSlip$Row;", true)
  | 3 => ("WheelsSlip", "deeds", "LWheelsSlip$Row;", true)
  | 4 => ("WheelsSlip", "tally", "LWheelsSlip$Row;", true)
  | 5 => ("WheelsSlip", "plan", "LWheelsSlip$Row;", true)
  | 6 => ("WheelsSlip", "parts", "LWheelsSlip$Row;", true)
  | 7 => ("WheelsSlip", "reader", "LWheelsSlip$Reader;", true)
  | 8 => ("WheelsSlip", "draft", "LWheelsSlip$Consist;", true)
  | 9 => ("WheelsSlip", "consist", "LWheelsSlip$Consist;", true)
  | 10 => ("WheelsSlip", "now", "LWheelsSlip$Train;", true)
  | 11 => ("WheelsSlip", "aside", "LWheelsSlip$Train;", true)
  | 12 => ("WheelsSlip", "hasTrain", "Z", false)
  | 13 => ("WheelsSlip", "asked", "I", false)
  | 14 => ("WheelsSlip", "upper", "J", false)
  | 15 => ("WheelsSlip", "lower", "J", false)
  | _ => ("WheelsSlip", "finding", "I", false)
def tyX5 : Nat → FieldType := fun k => match k with
  | 0 => .array (.object "WheelsSlip$Row")
  | 1 => .array (.object "WheelsSlip$Row")
  | 2 => .array (.object "WheelsSlip$Row")
  | 3 => .object "WheelsSlip$Row"
  | 4 => .object "WheelsSlip$Row"
  | 5 => .object "WheelsSlip$Row"
  | 6 => .object "WheelsSlip$Row"
  | 7 => .object "WheelsSlip$Reader"
  | 8 => .object "WheelsSlip$Consist"
  | 9 => .object "WheelsSlip$Consist"
  | 10 => .object "WheelsSlip$Train"
  | 11 => .object "WheelsSlip$Train"
  | 12 => .boolean
  | 13 => .int
  | 14 => .long
  | 15 => .long
  | _ => .int
theorem nmX5 : ∀ a, a < 17 → ∀ b, b < 17 → a ≠ b → (TX5 a).2.1 ≠ (TX5 b).2.1 := by decide +kernel
theorem tyX5_ok : ∀ k, k < 17 → parseFieldDescriptor (TX5 k).2.2.1 = some (tyX5 k) := by decide +kernel
abbrev wsX00 : List Cond := u_ws RX0 TX0 11
set_option maxRecDepth 100000 in
theorem inX0 : ∀ w ∈ wsX00, w ∈ lw_tbl := by decide +kernel
abbrev wsX20 : List Cond := u_ws RX2 TX2 1
set_option maxRecDepth 100000 in
theorem inX2 : ∀ w ∈ wsX20, w ∈ lw_tbl := by decide +kernel
abbrev wsX30 : List Cond := u_ws RX3 TX3 2
set_option maxRecDepth 100000 in
theorem inX3 : ∀ w ∈ wsX30, w ∈ lw_tbl := by decide +kernel
abbrev wsX40 : List Cond := u_ws RX4 TX4 12
set_option maxRecDepth 100000 in
theorem inX4 : ∀ w ∈ wsX40, w ∈ lw_tbl := by decide +kernel
abbrev wsX50 : List Cond := u_ws RX5 TX5 17
set_option maxRecDepth 100000 in
theorem inX5 : ∀ w ∈ wsX50, w ∈ lw_tbl := by decide +kernel
abbrev rf_cl : List vw_C := [(RX0, TX0, 11), (RX2, TX2, 1), (RX3, TX3, 2), (RX4, TX4, 12), (RX5, TX5, 17)]
