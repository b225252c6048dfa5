/-! What a train does, as numbers in a row (the reference's own row of 37), word for word. -/
def sp_kind (s : Nat → Int) (i : Int) : Int := s (9 + 3 * i).toNat
def sp_tons (s : Nat → Int) (i : Int) : Int := s (9 + 3 * i + 1).toNat
def sp_coup (s : Nat → Int) (i : Int) : Int := s (9 + 3 * i + 2).toNat
def sp_plain (s : Nat → Int) (i : Int) : Int := if sp_kind s i = 1 then rf_w (2 * sp_tons s i) else if sp_kind s i = 4 then rf_w (2 * sp_tons s i) else if sp_kind s i = 3 then (if rf_w (sp_tons s i - 2) < 0 then 0 else rf_w (sp_tons s i - 2)) else sp_tons s i
def sp_weighs (s : Nat → Int) (i : Int) : Int := rf_w (rf_w (sp_plain s i + (if sp_kind s i = 5 then (if s 31 = 1 then 3 else 0) else 0)) + s 1)
def sp_holds (s : Nat → Int) (i : Int) : Int := if sp_kind s i = 4 then rf_w (Int.tdiv (sp_coup s i) 2) else sp_coup s i
def sp_slack (s : Nat → Int) (i : Int) : Int := if sp_kind s i = 2 then 2 else if sp_kind s i = 5 then 2 else 0
def sp_load (s : Nat → Int) : Nat → Int
  | 0 => 0
  | n + 1 => rf_w (sp_load s n + sp_weighs s (n : Int))
def sp_bare (s : Nat → Int) (rail : Int) : Int := if rf_w (rf_w (s 0 * rf_w (3 - rail)) - s 29) < 0 then 0 else rf_w (rf_w (s 0 * rf_w (3 - rail)) - s 29)
def sp_grip (s : Nat → Int) (rail : Int) : Int := rf_w (sp_bare s rail + (if s 30 = 1 then 3 else 0))
def sp_rail (s : Nat → Int) : Int := s (3 + Int.tmod (s 34) (s 2)).toNat
def sp_can (s : Nat → Int) (t : Int) : Bool := if t < 10 then decide (t ≤ s 27) else if t = 10 then decide (0 < s 28) else if t < 14 then true else decide (s 32 = 1)
def sp_takes (s : Nat → Int) (st : Int) : Bool := decide (s 33 ≠ s 36 ∧ sp_load s (s 33 + 1).toNat ≤ rf_w (2 * st) ∧ (s 33 + 1 < s 36 ∨ s 31 = 0))
def sp_tears (s : Nat → Int) (st : Int) : Bool := decide (sp_holds s (s 33) < rf_w (rf_w (rf_w (2 * st) - sp_load s (s 33 + 1).toNat) + sp_slack s (s 33)))
def sp_goes (s : Nat → Int) (st : Int) : Bool := decide (s 33 = s 36 ∧ sp_load s (s 33).toNat ≤ rf_w (2 * st) ∧ s 31 = 0)
def sp_rolls (s : Nat → Int) (st : Int) : Bool := decide (rf_w (2 * st) < sp_load s (s 33).toNat ∧ s 31 = 0)
def sp_less (s : Nat → Int) (st : Int) : Nat → Int := rg_ui (rg_ui s 30 0) 27 (rf_w (s 27 - (if 0 < st then (if 0 < s 27 then 1 else 0) else 0)))
/-- what comes of steam given on a rail, and the row behind it -/
def sp_gives (s : Nat → Int) (st rail : Int) : Int × (Nat → Int) :=
  if sp_grip s rail < rf_w (2 * st) then (1, rg_ui (rg_ui (rg_ui s 30 0) 29 (if 9 < rf_w (s 29 + 1) then 9 else rf_w (s 29 + 1))) 27 (if rf_w (s 27 - 2) < 0 then 0 else rf_w (s 27 - 2)))
  else if sp_takes s st then (if sp_tears s st then (3, rg_ui (rg_ui (rg_ui (sp_less s st) 36 (s 33)) 31 0) 32 0) else (2, rg_ui (sp_less s st) 33 (rf_w (s 33 + 1))))
  else if sp_goes s st then (4, rg_ui (sp_less s st) 35 (rf_w (s 35 + 1)))
  else if sp_rolls s st then (5, rg_ui (sp_less s st) 33 0) else (0, sp_less s st)
def sp_other (s : Nat → Int) (t : Int) : Nat → Int := if t = 10 then rg_ui (rg_ui s 28 (rf_w (s 28 - 1))) 30 1 else if t = 11 then rg_ui s 27 (if 9 < rf_w (s 27 + 2) then 9 else rf_w (s 27 + 2)) else if t = 12 then rg_ui s 33 0 else rg_ui s 31 (if t = 14 then 1 else 0)
def sp_tick (s : Nat → Int) : Nat → Int := rg_ui s 34 (rf_w (s 34 + 1))
def sp_does (s : Nat → Int) (t rail : Int) : Int × (Nat → Int) := if t < 10 then ((sp_gives s t rail).1, sp_tick (sp_gives s t rail).2) else (6, sp_tick (sp_other s t))
/-! which places these look at -/
theorem sp_weighs_of {s u : Nat → Int} (h1 : u 1 = s 1) (h31 : u 31 = s 31) (hw : ∀ k, 9 ≤ k → k < 27 → u k = s k) {i : Int} (i0 : 0 ≤ i) (i6 : i < 6) : sp_weighs u i = sp_weighs s i := by
  unfold sp_weighs sp_plain sp_kind sp_tons
  rw [hw (9 + 3 * i).toNat (by omega) (by omega), hw (9 + 3 * i + 1).toNat (by omega) (by omega), h1, h31]
theorem sp_load_of {s u : Nat → Int} (h1 : u 1 = s 1) (h31 : u 31 = s 31) (hw : ∀ k, 9 ≤ k → k < 27 → u k = s k) : ∀ {n : Nat}, n ≤ 6 → sp_load u n = sp_load s n
  | 0, _ => rfl
  | n + 1, h => by
    show rf_w (sp_load u n + sp_weighs u (n : Int)) = rf_w (sp_load s n + sp_weighs s (n : Int))
    rw [sp_load_of h1 h31 hw (by omega), sp_weighs_of h1 h31 hw (by omega) (by omega)]
theorem sp_holds_of {s u : Nat → Int} (hw : ∀ k, 9 ≤ k → k < 27 → u k = s k) {i : Int} (i0 : 0 ≤ i) (i6 : i < 6) : sp_holds u i = sp_holds s i := by
  unfold sp_holds sp_kind sp_coup
  rw [hw (9 + 3 * i).toNat (by omega) (by omega), hw (9 + 3 * i + 2).toNat (by omega) (by omega)]
theorem sp_slack_of {s u : Nat → Int} (hw : ∀ k, 9 ≤ k → k < 27 → u k = s k) {i : Int} (i0 : 0 ≤ i) (i6 : i < 6) : sp_slack u i = sp_slack s i := by
  unfold sp_slack sp_kind
  rw [hw (9 + 3 * i).toNat (by omega) (by omega)]
theorem sp_less_1 (s : Nat → Int) (st : Int) : sp_less s st 1 = s 1 := rfl
theorem sp_less_31 (s : Nat → Int) (st : Int) : sp_less s st 31 = s 31 := rfl
theorem sp_less_33 (s : Nat → Int) (st : Int) : sp_less s st 33 = s 33 := rfl
theorem sp_less_35 (s : Nat → Int) (st : Int) : sp_less s st 35 = s 35 := rfl
theorem sp_less_36 (s : Nat → Int) (st : Int) : sp_less s st 36 = s 36 := rfl
theorem sp_less_w (s : Nat → Int) (st : Int) (k : Nat) (h : k < 27) : sp_less s st k = s k := by
  unfold sp_less
  rw [rg_ui_n (by omega), rg_ui_n (by omega)]
theorem sp_less_load (s : Nat → Int) (st : Int) {n : Nat} (h : n ≤ 6) : sp_load (sp_less s st) n = sp_load s n := sp_load_of (s := s) (u := sp_less s st) rfl rfl (fun k h1 h2 => sp_less_w s st k h2) h
theorem sp_less_holds (s : Nat → Int) (st : Int) {i : Int} (i0 : 0 ≤ i) (i6 : i < 6) : sp_holds (sp_less s st) i = sp_holds s i := sp_holds_of (fun k h1 h2 => sp_less_w s st k h2) i0 i6
theorem sp_less_slack (s : Nat → Int) (st : Int) {i : Int} (i0 : 0 ≤ i) (i6 : i < 6) : sp_slack (sp_less s st) i = sp_slack s i := sp_slack_of (fun k h1 h2 => sp_less_w s st k h2) i0 i6
/-! The reference's own methods on it -/
section RGM
variable {X : rf_X} {D : rf_D}
theorem rg_M_kind (d : Nat) {i : Int} (h1 : 0 ≤ i) (h2 : i < 6) : rf_call (d + 1) 144 [.inr (.inr (some 77)), .inl i] (hp X D) = some (some (.inl (sp_kind (D 88) i)), hp X D) := by
  rw [rf_e_M_kind]
  simp (disch := omega) only [rg_hp1, rg_o_77, rg_gI_77, rg_pI_77, rg_gR_77_0, rg_gR_77_1, rg_gR_77_2, rg_gR_77_3, rg_gR_77_4, rg_gR_77_5, rg_gR_77_6, rg_gR_77_7, rg_gR_77_12, rg_gR_77_16, rg_gR_77_17, rg_gR_77_18, rg_gR_77_19, rg_aI_78, rg_aI_79, rg_aI_80, rg_aI_81, rg_aI_82, rg_aI_83, rg_aI_85, rg_aI_86, rg_aI_87, rg_aI_88, rg_aI_89, rg_aI_90, rg_sI_78, rg_sI_79, rg_sI_80, rg_sI_81, rg_sI_82, rg_sI_83, rg_sI_85, rg_sI_86, rg_sI_87, rg_sI_88, rg_sI_89, rg_sI_90, rg_aZ_84, rg_sZ_84, Int.reduceToNat, rg_kIs, rg_kLs, rg_kRs, rg_kVs, rg_nns, rg_bs, cond_true, cond_false, rg_w]
  try rfl
theorem rg_M_greater (d : Nat) (a b : Int) (h : rf_H) : rf_call (d + 1) 147 [.inl a, .inl b] h = some (some (.inl (if b < a then a else b)), h) := by
  rw [rf_e_M_greater]
  split <;> rfl
theorem rg_M_lesser (d : Nat) (a b : Int) (h : rf_H) : rf_call (d + 1) 158 [.inl a, .inl b] h = some (some (.inl (if a < b then a else b)), h) := by
  rw [rf_e_M_lesser]
  split <;> rfl
theorem rg_cmpn (x y : Int) : rf_cmp x y < 0 ↔ x < y := by
  unfold rf_cmp
  split
  · omega
  · split <;> omega
theorem rg_cmpp (x y : Int) : 0 < rf_cmp x y ↔ y < x := by
  unfold rf_cmp
  split
  · omega
  · split <;> omega
theorem rg_M_in (d : Nat) (a b c : Int) (h : rf_H) : rf_call (d + 1) 118 [.inr (.inl a), .inr (.inl b), .inr (.inl c)] h = some (some (.inl (if b ≤ a ∧ a ≤ c then 1 else 0)), h) := by
  rw [rf_e_M_in]
  simp only [rg_cmpn, rg_cmpp]
  by_cases h1 : a < b
  · rw [if_pos h1, if_neg (show ¬ (b ≤ a ∧ a ≤ c) by omega)]
  · rw [if_neg h1]
    by_cases h2 : c < a
    · rw [if_pos h2, if_neg (show ¬ (b ≤ a ∧ a ≤ c) by omega)]
    · rw [if_neg h2, if_pos (show b ≤ a ∧ a ≤ c by omega)]
theorem rg_M_weighs_52 (d : Nat) (k v : Int) : rf_j_M_weighs_52 d 77 k v (hp X D) = some (some (.inl (rf_w (rf_w (v + (if k = 5 then (if D 88 31 = 1 then 3 else 0) else 0)) + D 88 1))), hp X D) := by
  rw [rf_e_M_weighs_52]
  simp (disch := omega) only [rg_hp1, rg_o_77, rg_gI_77, rg_pI_77, rg_gR_77_0, rg_gR_77_1, rg_gR_77_2, rg_gR_77_3, rg_gR_77_4, rg_gR_77_5, rg_gR_77_6, rg_gR_77_7, rg_gR_77_12, rg_gR_77_16, rg_gR_77_17, rg_gR_77_18, rg_gR_77_19, rg_aI_78, rg_aI_79, rg_aI_80, rg_aI_81, rg_aI_82, rg_aI_83, rg_aI_85, rg_aI_86, rg_aI_87, rg_aI_88, rg_aI_89, rg_aI_90, rg_sI_78, rg_sI_79, rg_sI_80, rg_sI_81, rg_sI_82, rg_sI_83, rg_sI_85, rg_sI_86, rg_sI_87, rg_sI_88, rg_sI_89, rg_sI_90, rg_aZ_84, rg_sZ_84, Int.reduceToNat, rg_kIs, rg_kLs, rg_kRs, rg_kVs, rg_nns, rg_bs, cond_true, cond_false]
  by_cases h1 : k = 5
  · simp only [if_pos h1]
    by_cases h2 : D 88 31 = 1
    · have h2' : D 88 31 = 1 := h2
      rw [if_pos h2', if_pos h2]
      try rfl
    · have h2' : ¬ D 88 31 = 1 := h2
      rw [if_neg h2', if_neg h2]
      try rfl
  · simp only [if_neg h1]
    try rfl
theorem rg_M_weighs (d : Nat) {i : Int} (h1 : 0 ≤ i) (h2 : i < 6) : rf_call (d + 2) 146 [.inr (.inr (some 77)), .inl i] (hp X D) = some (some (.inl (sp_weighs (D 88) i)), hp X D) := by
  rw [rf_e_M_weighs]
  simp (disch := omega) only [rg_hp1, rg_o_77, rg_gI_77, rg_pI_77, rg_gR_77_0, rg_gR_77_1, rg_gR_77_2, rg_gR_77_3, rg_gR_77_4, rg_gR_77_5, rg_gR_77_6, rg_gR_77_7, rg_gR_77_12, rg_gR_77_16, rg_gR_77_17, rg_gR_77_18, rg_gR_77_19, rg_aI_78, rg_aI_79, rg_aI_80, rg_aI_81, rg_aI_82, rg_aI_83, rg_aI_85, rg_aI_86, rg_aI_87, rg_aI_88, rg_aI_89, rg_aI_90, rg_sI_78, rg_sI_79, rg_sI_80, rg_sI_81, rg_sI_82, rg_sI_83, rg_sI_85, rg_sI_86, rg_sI_87, rg_sI_88, rg_sI_89, rg_sI_90, rg_aZ_84, rg_sZ_84, Int.reduceToNat, rg_kIs, rg_kLs, rg_kRs, rg_kVs, rg_nns, rg_bs, cond_true, cond_false, rg_M_kind, rg_M_greater, rg_M_weighs_52]
  rw [rg_w (show -2147483648 ≤ 3 * i by omega) (by omega), rg_w (show -2147483648 ≤ 9 + 3 * i by omega) (by omega), rg_w (show -2147483648 ≤ 9 + 3 * i + 1 by omega) (by omega), rg_aI_88 (by omega) (by omega)]
  simp only [Int.reduceToNat, rg_kIs, rg_kLs, rg_kRs, rg_kVs, rg_nns, rg_bs, cond_true, cond_false]
  unfold sp_weighs sp_plain
  by_cases a1 : sp_kind (D 88) i = 1
  · simp only [if_pos a1]
    try rfl
  · simp only [if_neg a1]
    by_cases a2 : sp_kind (D 88) i = 4
    · simp only [if_pos a2]
      try rfl
    · simp only [if_neg a2]
      by_cases a3 : sp_kind (D 88) i = 3
      · simp only [if_pos a3]
        have e : ∀ z : Int, (if z < 0 then 0 else z) = (if z < 0 then (0 : Int) else z) := fun _ => rfl
        try rfl
      · simp only [if_neg a3]
        try rfl
theorem rg_M_holds (d : Nat) {i : Int} (h1 : 0 ≤ i) (h2 : i < 6) : rf_call (d + 2) 143 [.inr (.inr (some 77)), .inl i] (hp X D) = some (some (.inl (sp_holds (D 88) i)), hp X D) := by
  rw [rf_e_M_holds]
  simp (disch := omega) only [rg_hp1, rg_o_77, rg_gI_77, rg_pI_77, rg_gR_77_0, rg_gR_77_1, rg_gR_77_2, rg_gR_77_3, rg_gR_77_4, rg_gR_77_5, rg_gR_77_6, rg_gR_77_7, rg_gR_77_12, rg_gR_77_16, rg_gR_77_17, rg_gR_77_18, rg_gR_77_19, rg_aI_78, rg_aI_79, rg_aI_80, rg_aI_81, rg_aI_82, rg_aI_83, rg_aI_85, rg_aI_86, rg_aI_87, rg_aI_88, rg_aI_89, rg_aI_90, rg_sI_78, rg_sI_79, rg_sI_80, rg_sI_81, rg_sI_82, rg_sI_83, rg_sI_85, rg_sI_86, rg_sI_87, rg_sI_88, rg_sI_89, rg_sI_90, rg_aZ_84, rg_sZ_84, Int.reduceToNat, rg_kIs, rg_kLs, rg_kRs, rg_kVs, rg_nns, rg_bs, cond_true, cond_false, rg_M_kind]
  rw [rg_w (show -2147483648 ≤ 3 * i by omega) (by omega), rg_w (show -2147483648 ≤ 9 + 3 * i by omega) (by omega), rg_w (show -2147483648 ≤ 9 + 3 * i + 2 by omega) (by omega), rg_aI_88 (by omega) (by omega)]
  simp only [Int.reduceToNat, rg_kIs, rg_kLs, rg_kRs, rg_kVs, rg_nns, rg_bs, cond_true, cond_false]
  unfold sp_holds
  by_cases a1 : sp_kind (D 88) i = 4
  · simp only [if_pos a1]
    try rfl
  · simp only [if_neg a1]
    try rfl
theorem rg_M_slack (d : Nat) {i : Int} (h1 : 0 ≤ i) (h2 : i < 6) : rf_call (d + 2) 145 [.inr (.inr (some 77)), .inl i] (hp X D) = some (some (.inl (sp_slack (D 88) i)), hp X D) := by
  rw [rf_e_M_slack]
  simp (disch := omega) only [rg_hp1, rg_o_77, rg_gI_77, rg_pI_77, rg_gR_77_0, rg_gR_77_1, rg_gR_77_2, rg_gR_77_3, rg_gR_77_4, rg_gR_77_5, rg_gR_77_6, rg_gR_77_7, rg_gR_77_12, rg_gR_77_16, rg_gR_77_17, rg_gR_77_18, rg_gR_77_19, rg_aI_78, rg_aI_79, rg_aI_80, rg_aI_81, rg_aI_82, rg_aI_83, rg_aI_85, rg_aI_86, rg_aI_87, rg_aI_88, rg_aI_89, rg_aI_90, rg_sI_78, rg_sI_79, rg_sI_80, rg_sI_81, rg_sI_82, rg_sI_83, rg_sI_85, rg_sI_86, rg_sI_87, rg_sI_88, rg_sI_89, rg_sI_90, rg_aZ_84, rg_sZ_84, Int.reduceToNat, rg_kIs, rg_kLs, rg_kRs, rg_kVs, rg_nns, rg_bs, cond_true, cond_false, rg_M_kind]
  unfold sp_slack
  by_cases a1 : sp_kind (D 88) i = 2
  · simp only [if_pos a1]
  · simp only [if_neg a1]
    by_cases a2 : sp_kind (D 88) i = 5
    · simp only [if_pos a2]
    · simp only [if_neg a2]
theorem rg_M_loadOf_loop (d : Nat) (z : Nat) (hz : z ≤ 6) : ∀ (k i : Nat), i + k = z → rf_j_M_loadOf_4 (d + 2) 77 (z : Int) (sp_load (D 88) i) (i : Int) (hp X D) = some (some (.inl (sp_load (D 88) z)), hp X D)
  | 0, i, hk => by
    rw [rf_e_M_loadOf_4, if_neg (by omega), show i = z by omega]
  | k + 1, i, hk => by
    rw [rf_e_M_loadOf_4, if_pos (by omega)]
    simp only [rg_hp1, rg_o_77, Int.reduceToNat, rg_kIs, rg_kLs, rg_kRs, rg_kVs, rg_nns, rg_bs, cond_true, cond_false]
    rw [rg_M_weighs d (by omega) (by omega)]
    simp only [Int.reduceToNat, rg_kIs, rg_kLs, rg_kRs, rg_kVs, rg_nns, rg_bs, cond_true, cond_false]
    rw [rg_w (show -2147483648 ≤ (i : Int) + 1 by omega) (by omega), show ((i : Int) + 1) = ((i + 1 : Nat) : Int) by omega]
    exact rg_M_loadOf_loop d z hz k (i + 1) (by omega)
theorem rg_M_loadOf (d : Nat) {n : Int} (h1 : 0 ≤ n) (h2 : n ≤ 6) : rf_call (d + 3) 159 [.inr (.inr (some 77)), .inl n] (hp X D) = some (some (.inl (sp_load (D 88) n.toNat)), hp X D) := by
  obtain ⟨z, rfl⟩ := Int.eq_ofNat_of_zero_le h1
  rw [rf_e_M_loadOf]
  exact rg_M_loadOf_loop d z (by omega) z 0 (by omega)
theorem rg_M_gripOn (d : Nat) (r : Int) : rf_call (d + 2) 157 [.inr (.inr (some 77)), .inl r] (hp X D) = some (some (.inl (sp_grip (D 88) r)), hp X D) := by
  rw [rf_e_M_gripOn]
  simp (disch := omega) only [rg_hp1, rg_o_77, rg_gI_77, rg_pI_77, rg_gR_77_0, rg_gR_77_1, rg_gR_77_2, rg_gR_77_3, rg_gR_77_4, rg_gR_77_5, rg_gR_77_6, rg_gR_77_7, rg_gR_77_12, rg_gR_77_16, rg_gR_77_17, rg_gR_77_18, rg_gR_77_19, rg_aI_78, rg_aI_79, rg_aI_80, rg_aI_81, rg_aI_82, rg_aI_83, rg_aI_85, rg_aI_86, rg_aI_87, rg_aI_88, rg_aI_89, rg_aI_90, rg_sI_78, rg_sI_79, rg_sI_80, rg_sI_81, rg_sI_82, rg_sI_83, rg_sI_85, rg_sI_86, rg_sI_87, rg_sI_88, rg_sI_89, rg_sI_90, rg_aZ_84, rg_sZ_84, Int.reduceToNat, rg_kIs, rg_kLs, rg_kRs, rg_kVs, rg_nns, rg_bs, cond_true, cond_false, rg_M_greater]
  unfold sp_grip
  by_cases a1 : D 88 30 = 1
  · have a1' : D 88 30 = 1 := a1
    rw [if_pos a1', if_pos a1]
    try rfl
  · have a1' : ¬ D 88 30 = 1 := a1
    rw [if_neg a1', if_neg a1]
    try rfl
theorem rg_M_railNow (d : Nat) (h1 : 0 ≤ D 88 34) (h2 : 1 ≤ D 88 2) (h3 : D 88 2 ≤ 6) : rf_call (d + 1) 154 [.inr (.inr (some 77))] (hp X D) = some (some (.inl (sp_rail (D 88))), hp X D) := by
  have b1 : 0 ≤ Int.tmod (D 88 34) (D 88 2) := Int.tmod_nonneg _ h1
  have b2 : Int.tmod (D 88 34) (D 88 2) < D 88 2 := Int.tmod_lt_of_pos _ (by omega)
  rw [rf_e_M_railNow]
  simp (disch := omega) only [rg_hp1, rg_o_77, rg_gI_77, rg_pI_77, rg_gR_77_0, rg_gR_77_1, rg_gR_77_2, rg_gR_77_3, rg_gR_77_4, rg_gR_77_5, rg_gR_77_6, rg_gR_77_7, rg_gR_77_12, rg_gR_77_16, rg_gR_77_17, rg_gR_77_18, rg_gR_77_19, rg_aI_78, rg_aI_79, rg_aI_80, rg_aI_81, rg_aI_82, rg_aI_83, rg_aI_85, rg_aI_86, rg_aI_87, rg_aI_88, rg_aI_89, rg_aI_90, rg_sI_78, rg_sI_79, rg_sI_80, rg_sI_81, rg_sI_82, rg_sI_83, rg_sI_85, rg_sI_86, rg_sI_87, rg_sI_88, rg_sI_89, rg_sI_90, rg_aZ_84, rg_sZ_84, Int.reduceToNat, rg_kIs, rg_kLs, rg_kRs, rg_kVs, rg_nns, rg_bs, cond_true, cond_false]
  have e1 : D 88 2 = D 88 2 := rfl
  have e2 : D 88 34 = D 88 34 := rfl
  rw [e1, e2, if_neg (by omega), rg_w (by omega) (by omega), rg_aI_88 (by omega) (by omega)]
  try rfl
theorem rg_M_can (d : Nat) (t : Int) : rf_call (d + 1) 152 [.inr (.inr (some 77)), .inl t] (hp X D) = some (some (.inl (if sp_can (D 88) t = true then 1 else 0)), hp X D) := by
  rw [rf_e_M_can]
  simp (disch := omega) only [rg_hp1, rg_o_77, rg_gI_77, rg_pI_77, rg_gR_77_0, rg_gR_77_1, rg_gR_77_2, rg_gR_77_3, rg_gR_77_4, rg_gR_77_5, rg_gR_77_6, rg_gR_77_7, rg_gR_77_12, rg_gR_77_16, rg_gR_77_17, rg_gR_77_18, rg_gR_77_19, rg_aI_78, rg_aI_79, rg_aI_80, rg_aI_81, rg_aI_82, rg_aI_83, rg_aI_85, rg_aI_86, rg_aI_87, rg_aI_88, rg_aI_89, rg_aI_90, rg_sI_78, rg_sI_79, rg_sI_80, rg_sI_81, rg_sI_82, rg_sI_83, rg_sI_85, rg_sI_86, rg_sI_87, rg_sI_88, rg_sI_89, rg_sI_90, rg_aZ_84, rg_sZ_84, Int.reduceToNat, rg_kIs, rg_kLs, rg_kRs, rg_kVs, rg_nns, rg_bs, cond_true, cond_false]
  unfold sp_can
  by_cases a1 : t < 10
  · simp only [if_pos a1, decide_eq_true_eq]
    by_cases a2 : D 88 27 < t
    · have a2' : D 88 27 < t := a2
      rw [if_pos a2', if_neg (by omega)]
    · have a2' : ¬ D 88 27 < t := a2
      rw [if_neg a2', if_pos (by omega)]
  · simp only [if_neg a1]
    by_cases a2 : t = 10
    · simp only [if_pos a2, decide_eq_true_eq]
      by_cases a3 : 0 < D 88 28
      · have a3' : 0 < D 88 28 := a3
        rw [if_pos a3', if_pos a3]
      · have a3' : ¬ 0 < D 88 28 := a3
        rw [if_neg a3', if_neg a3]
    · simp only [if_neg a2]
      by_cases a3 : t < 14
      · simp only [if_pos a3]
        try rfl
      · simp only [if_neg a3, decide_eq_true_eq]
        by_cases a4 : D 88 32 = 1
        · have a4' : D 88 32 = 1 := a4
          rw [if_pos a4', if_pos a4]
        · have a4' : ¬ D 88 32 = 1 := a4
          rw [if_neg a4', if_neg a4]
end RGM
