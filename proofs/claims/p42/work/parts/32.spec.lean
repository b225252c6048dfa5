/-! What a train does, as numbers in a row (the reference's own row of 37), word for word. -/
def sp_kind (s : Nat → Int) (i : Int) : Int := s (9 + 3 * i).toNat
def sp_tons (s : Nat → Int) (i : Int) : Int := s (9 + 3 * i + 1).toNat
def sp_coup (s : Nat → Int) (i : Int) : Int := s (9 + 3 * i + 2).toNat
def sp_plain (s : Nat → Int) (i : Int) : Int := if sp_kind s i = 1 then rf_w (2 * sp_tons s i) else if sp_kind s i = 4 then rf_w (2 * sp_tons s i) else if sp_kind s i = 3 then (if rf_w (sp_tons s i - 2) < 0 then 0 else rf_w (sp_tons s i - 2)) else sp_tons s i
def sp_weighs (s : Nat → Int) (i : Int) : Int := rf_w (rf_w (sp_plain s i + (if sp_kind s i = 5 then (if s 31 = 1 then 3 else 0) else 0)) + s 1)
def sp_holds (s : Nat → Int) (i : Int) : Int := if sp_kind s i = 4 then rf_w (Int.tdiv (sp_coup s i) 2) else sp_coup s i
def sp_slack (s : Nat → Int) (i : Int) : Int := if sp_kind s i = 2 then 2 else if sp_kind s i = 5 then 2 else 0
def sp_load (s : Nat → Int) : Nat → Int
  | 0 => 0
  | n + 1 => rf_w (sp_load s n + sp_weighs s (n : Int))
def sp_bare (s : Nat → Int) (rail : Int) : Int := if rf_w (rf_w (s 0 * rf_w (3 - rail)) - s 29) < 0 then 0 else rf_w (rf_w (s 0 * rf_w (3 - rail)) - s 29)
def sp_grip (s : Nat → Int) (rail : Int) : Int := rf_w (sp_bare s rail + (if s 30 = 1 then 3 else 0))
def sp_rail (s : Nat → Int) : Int := s (3 + Int.tmod (s 34) (s 2)).toNat
def sp_can (s : Nat → Int) (t : Int) : Bool := if t < 10 then decide (t ≤ s 27) else if t = 10 then decide (0 < s 28) else if t < 14 then true else decide (s 32 = 1)
def sp_takes (s : Nat → Int) (st : Int) : Bool := decide (s 33 ≠ s 36 ∧ sp_load s (s 33 + 1).toNat ≤ rf_w (2 * st) ∧ (s 33 + 1 < s 36 ∨ s 31 = 0))
def sp_tears (s : Nat → Int) (st : Int) : Bool := decide (sp_holds s (s 33) < rf_w (rf_w (rf_w (2 * st) - sp_load s (s 33 + 1).toNat) + sp_slack s (s 33)))
def sp_goes (s : Nat → Int) (st : Int) : Bool := decide (s 33 = s 36 ∧ sp_load s (s 33).toNat ≤ rf_w (2 * st) ∧ s 31 = 0)
def sp_rolls (s : Nat → Int) (st : Int) : Bool := decide (rf_w (2 * st) < sp_load s (s 33).toNat ∧ s 31 = 0)
def sp_less (s : Nat → Int) (st : Int) : Nat → Int := rg_ui (rg_ui s 30 0) 27 (rf_w (s 27 - (if 0 < st then (if 0 < s 27 then 1 else 0) else 0)))
/-- what comes of steam given on a rail, and the row behind it -/
def sp_gives (s : Nat → Int) (st rail : Int) : Int × (Nat → Int) :=
  if sp_grip s rail < rf_w (2 * st) then (1, rg_ui (rg_ui (rg_ui s 30 0) 29 (if 9 < rf_w (s 29 + 1) then 9 else rf_w (s 29 + 1))) 27 (if rf_w (s 27 - 2) < 0 then 0 else rf_w (s 27 - 2)))
  else if sp_takes s st then (if sp_tears s st then (3, rg_ui (rg_ui (rg_ui (sp_less s st) 36 (s 33)) 31 0) 32 0) else (2, rg_ui (sp_less s st) 33 (rf_w (s 33 + 1))))
  else if sp_goes s st then (4, rg_ui (sp_less s st) 35 (rf_w (s 35 + 1)))
  else if sp_rolls s st then (5, rg_ui (sp_less s st) 33 0) else (0, sp_less s st)
def sp_other (s : Nat → Int) (t : Int) : Nat → Int := if t = 10 then rg_ui (rg_ui s 28 (rf_w (s 28 - 1))) 30 1 else if t = 11 then rg_ui s 27 (if 9 < rf_w (s 27 + 2) then 9 else rf_w (s 27 + 2)) else if t = 12 then rg_ui s 33 0 else rg_ui s 31 (if t = 14 then 1 else 0)
def sp_tick (s : Nat → Int) : Nat → Int := rg_ui s 34 (rf_w (s 34 + 1))
def sp_does (s : Nat → Int) (t rail : Int) : Int × (Nat → Int) := if t < 10 then ((sp_gives s t rail).1, sp_tick (sp_gives s t rail).2) else (6, sp_tick (sp_other s t))
/-! which places these look at -/
theorem sp_weighs_of {s u : Nat → Int} (h1 : u 1 = s 1) (h31 : u 31 = s 31) (hw : ∀ k, 9 ≤ k → k < 27 → u k = s k) {i : Int} (i0 : 0 ≤ i) (i6 : i < 6) : sp_weighs u i = sp_weighs s i := by
  unfold sp_weighs sp_plain sp_kind sp_tons
  rw [hw (9 + 3 * i).toNat (by omega) (by omega), hw (9 + 3 * i + 1).toNat (by omega) (by omega), h1, h31]
theorem sp_load_of {s u : Nat → Int} (h1 : u 1 = s 1) (h31 : u 31 = s 31) (hw : ∀ k, 9 ≤ k → k < 27 → u k = s k) : ∀ {n : Nat}, n ≤ 6 → sp_load u n = sp_load s n
  | 0, _ => rfl
  | n + 1, h => by
    show rf_w (sp_load u n + sp_weighs u (n : Int)) = rf_w (sp_load s n + sp_weighs s (n : Int))
    rw [sp_load_of h1 h31 hw (by omega), sp_weighs_of h1 h31 hw (by omega) (by omega)]
theorem sp_holds_of {s u : Nat → Int} (hw : ∀ k, 9 ≤ k → k < 27 → u k = s k) {i : Int} (i0 : 0 ≤ i) (i6 : i < 6) : sp_holds u i = sp_holds s i := by
  unfold sp_holds sp_kind sp_coup
  rw [hw (9 + 3 * i).toNat (by omega) (by omega), hw (9 + 3 * i + 2).toNat (by omega) (by omega)]
theorem sp_slack_of {s u : Nat → Int} (hw : ∀ k, 9 ≤ k → k < 27 → u k = s k) {i : Int} (i0 : 0 ≤ i) (i6 : i < 6) : sp_slack u i = sp_slack s i := by
  unfold sp_slack sp_kind
  rw [hw (9 + 3 * i).toNat (by omega) (by omega)]
theorem sp_less_1 (s : Nat → Int) (st : Int) : sp_less s st 1 = s 1 := rfl
theorem sp_less_31 (s : Nat → Int) (st : Int) : sp_less s st 31 = s 31 := rfl
theorem sp_less_33 (s : Nat → Int) (st : Int) : sp_less s st 33 = s 33 := rfl
theorem sp_less_35 (s : Nat → Int) (st : Int) : sp_less s st 35 = s 35 := rfl
theorem sp_less_36 (s : Nat → Int) (st : Int) : sp_less s st 36 = s 36 := rfl
theorem sp_less_w (s : Nat → Int) (st : Int) (k : Nat) (h : k < 27) : sp_less s st k = s k := by
  unfold sp_less
  rw [rg_ui_n (by omega), rg_ui_n (by omega)]
theorem sp_less_load (s : Nat → Int) (st : Int) {n : Nat} (h : n ≤ 6) : sp_load (sp_less s st) n = sp_load s n := sp_load_of (s := s) (u := sp_less s st) rfl rfl (fun k h1 h2 => sp_less_w s st k h2) h
theorem sp_less_holds (s : Nat → Int) (st : Int) {i : Int} (i0 : 0 ≤ i) (i6 : i < 6) : sp_holds (sp_less s st) i = sp_holds s i := sp_holds_of (fun k h1 h2 => sp_less_w s st k h2) i0 i6
theorem sp_less_slack (s : Nat → Int) (st : Int) {i : Int} (i0 : 0 ≤ i) (i6 : i < 6) : sp_slack (sp_less s st) i = sp_slack s i := sp_slack_of (fun k h1 h2 => sp_less_w s st k h2) i0 i6
/-! The reference's own methods on it -/
section RGM
variable {X : rf_X} {D : rf_D}
theorem rg_cmpn (x y : Int) : rf_cmp x y < 0 ↔ x < y := by
  unfold rf_cmp
  split
  · omega
  · split <;> omega
theorem rg_cmpp (x y : Int) : 0 < rf_cmp x y ↔ y < x := by
  unfold rf_cmp
  split
  · omega
  · split <;> omega
end RGM
