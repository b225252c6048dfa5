/-! plans: the reference's steps -/
section RGS35
variable {X : rf_X} {D : rf_D}
theorem xs_37 {a i : Nat} (h : a ≤ 4) (hi : i < 37) : rf_w (rf_w (37 * (a : Int)) + (i : Int)) = ((37 * a + i : Nat) : Int) := by
  rw [rg_w (z := 37 * (a : Int)) (by omega) (by omega), rg_w (by omega) (by omega)]
  omega
theorem rg_M_lies_2 (d : Nat) {a : Nat} (ha : a ≤ 4) : ∀ (k i : Nat) (D : rf_D), i + k = 37 → rf_j_M_lies_I_V_2 d 77 (a : Int) (i : Int) (hp X D) = some (none, hp X (rg_up D 89 (fun p => if 37 * a + i ≤ p ∧ p < 37 * a + 37 then D 88 (p - 37 * a) else D 89 p)))
  | 0, i, D, hk => by
    rw [rf_e_M_lies_I_V_2, if_neg (by omega)]
    have e : (fun p => if 37 * a + i ≤ p ∧ p < 37 * a + 37 then D 88 (p - 37 * a) else D 89 p) = D 89 := by
      funext p
      rw [if_neg (by omega)]
    rw [e, rg_up_i]
  | k + 1, i, D, hk => by
    have yi : i < 37 := by omega
    have yj : i ≤ 1000 := by omega
    rw [rf_e_M_lies_I_V_2, if_pos (by omega)]
    try simp only [rg_gR_77_17, rg_gR_77_18, Int.reduceToNat, rg_kIs, rg_kLs, rg_kRs, rg_kVs, rg_nns, rg_bs, cond_true, cond_false, xs_37 ha yi, xs_1 yj]
    rw [rg_aI_88 (by omega) (by omega)]
    try simp only [Int.reduceToNat, rg_kIs, rg_kLs, rg_kRs, rg_kVs, rg_nns, rg_bs, cond_true, cond_false]
    rw [rg_sI_89 (by omega) (by omega)]
    try simp only [Int.reduceToNat, rg_kIs, rg_kLs, rg_kRs, rg_kVs, rg_nns, rg_bs, cond_true, cond_false]
    rw [rg_M_lies_2 d ha k (i + 1) _ (by omega), rg_up_u, rg_up_s, rg_up_n (by decide), rg_tN, rg_tN]
    refine congrArg (fun f : Nat → Int => (some (none, hp X (rg_up D 89 f)) : Option rf_R)) (funext fun p => ?_)
    show (if 37 * a + (i + 1) ≤ p ∧ p < 37 * a + 37 then D 88 (p - 37 * a) else (if p = 37 * a + i then D 88 i else D 89 p)) = (if 37 * a + i ≤ p ∧ p < 37 * a + 37 then D 88 (p - 37 * a) else D 89 p)
    by_cases h1 : 37 * a + (i + 1) ≤ p ∧ p < 37 * a + 37
    · rw [if_pos h1, if_pos (by omega)]
    · rw [if_neg h1]
      by_cases h2 : p = 37 * a + i
      · rw [if_pos h2, if_pos (by omega), h2, show 37 * a + i - 37 * a = i by omega]
      · rw [if_neg h2, if_neg (by omega)]
def ly_r (f g : Nat → Int) (a : Nat) : Nat → Int := fun p => if 37 * a ≤ p ∧ p < 37 * a + 37 then g (p - 37 * a) else f p
theorem rg_M_lies (d : Nat) {a : Nat} (ha : a ≤ 4) : rf_call (d + 1) 174 [.inr (.inr (some 77)), .inl (a : Int)] (hp X D) = some (none, hp X (rg_up D 89 (ly_r (D 89) (D 88) a))) := by
  have l := rg_M_lies_2 (X := X) d ha 37 0 D (by decide)
  rw [show ((0 : Nat) : Int) = 0 from rfl] at l
  rw [rf_e_M_lies_I_V]
  exact l
theorem rg_M_stands_2 (d : Nat) {a : Nat} (ha : a ≤ 4) : ∀ (k i : Nat) (D : rf_D), i + k = 37 → rf_j_M_stands_2 d 77 (a : Int) (i : Int) (hp X D) = some (none, hp X (rg_up D 88 (fun p => if i ≤ p ∧ p < 37 then D 89 (37 * a + p) else D 88 p)))
  | 0, i, D, hk => by
    rw [rf_e_M_stands_2, if_neg (by omega)]
    have e : (fun p => if i ≤ p ∧ p < 37 then D 89 (37 * a + p) else D 88 p) = D 88 := by
      funext p
      rw [if_neg (by omega)]
    rw [e, rg_up_i]
  | k + 1, i, D, hk => by
    have yi : i < 37 := by omega
    have yj : i ≤ 1000 := by omega
    rw [rf_e_M_stands_2, if_pos (by omega)]
    try simp only [rg_gR_77_17, rg_gR_77_18, Int.reduceToNat, rg_kIs, rg_kLs, rg_kRs, rg_kVs, rg_nns, rg_bs, cond_true, cond_false, xs_37 ha yi, xs_1 yj]
    rw [rg_aI_89 (by omega) (by omega)]
    try simp only [Int.reduceToNat, rg_kIs, rg_kLs, rg_kRs, rg_kVs, rg_nns, rg_bs, cond_true, cond_false]
    rw [rg_sI_88 (by omega) (by omega)]
    try simp only [Int.reduceToNat, rg_kIs, rg_kLs, rg_kRs, rg_kVs, rg_nns, rg_bs, cond_true, cond_false]
    rw [rg_M_stands_2 d ha k (i + 1) _ (by omega), rg_up_u, rg_up_s, rg_up_n (by decide), rg_tN, rg_tN]
    refine congrArg (fun f : Nat → Int => (some (none, hp X (rg_up D 88 f)) : Option rf_R)) (funext fun p => ?_)
    show (if i + 1 ≤ p ∧ p < 37 then D 89 (37 * a + p) else (if p = i then D 89 (37 * a + i) else D 88 p)) = (if i ≤ p ∧ p < 37 then D 89 (37 * a + p) else D 88 p)
    by_cases h1 : i + 1 ≤ p ∧ p < 37
    · rw [if_pos h1, if_pos (by omega)]
    · rw [if_neg h1]
      by_cases h2 : p = i
      · rw [if_pos h2, if_pos (by omega), h2]
      · rw [if_neg h2, if_neg (by omega)]
def sd_r (f g : Nat → Int) (a : Nat) : Nat → Int := fun p => if 0 ≤ p ∧ p < 37 then g (37 * a + p) else f p
theorem rg_M_stands (d : Nat) {a : Nat} (ha : a ≤ 4) : rf_call (d + 1) 176 [.inr (.inr (some 77)), .inl (a : Int)] (hp X D) = some (none, hp X (rg_up D 88 (sd_r (D 88) (D 89) a))) := by
  have l := rg_M_stands_2 (X := X) d ha 37 0 D (by decide)
  rw [show ((0 : Nat) : Int) = 0 from rfl] at l
  rw [rf_e_M_stands]
  exact l
theorem xs_m1 {a : Nat} (h : a ≤ 1000) : rf_w ((a : Int) + (-1)) = (a : Int) - 1 := by
  rw [rg_w (by omega) (by omega)]
  omega
/-- the thing to be tried next -/
def pk_n (D : rf_D) (a t : Nat) : Prop := (t = 0 ∧ D 90 a = -9) ∨ ∃ u : Nat, t = u + 1 ∧ D 90 a = (u : Int)
theorem rg_M_pl_58 {a t : Nat} (ha : a ≤ 4) (ht : t ≤ 15) (h : pk_n D a t) (d : Nat) (n f g M : Int) : rf_j_M_plans_58 d 77 n f g M (a : Int) (hp X D) = rf_j_M_plans_89 d 77 n f g M (a : Int) (some 90) (a : Int) (t : Int) (hp X D) := by
  rw [rf_e_M_plans_58]
  try simp only [rg_gR_77_19, Int.reduceToNat, rg_kIs, rg_kLs, rg_kRs, rg_kVs, rg_nns, rg_bs, cond_true, cond_false]
  rw [rg_aI_90 (by omega) (by omega), rg_tN]
  try simp only [Int.reduceToNat, rg_kIs, rg_kLs, rg_kRs, rg_kVs, rg_nns, rg_bs, cond_true, cond_false]
  rcases h with ⟨h1, h2⟩ | ⟨u, h1, h2⟩
  · rw [if_pos h2, h1]
    try rfl
  · have yu : u ≤ 1000 := by omega
    rw [if_neg (by omega), h2, h1]
    rw [xs_1 yu]
/-- the steps behind a thing picked -/
theorem rg_M_pl_15 {a : Nat} (ha : a ≤ 4) (d : Nat) (n f g M : Int) : rf_j_M_plans_89 d 77 n f g M (a : Int) (some 90) (a : Int) 15 (hp X D) = rf_j_M_plans_38 d 77 n f g M ((a : Int) - 1) (hp X (rg_up D 90 (rg_ui (D 90) a 15))) := by
  have ya : a ≤ 1000 := by omega
  rw [rf_e_M_plans_89, xs_1 ya, xs_m1 ya]
  try simp only [Int.reduceToNat, rg_kIs, rg_kLs, rg_kRs, rg_kVs, rg_nns, rg_bs, cond_true, cond_false]
  rw [rg_sI_90 (by omega) (by omega), rg_tN]
  try simp only [rg_gR_77_19, Int.reduceToNat, rg_kIs, rg_kLs, rg_kRs, rg_kVs, rg_nns, rg_bs, cond_true, cond_false]
  rw [rg_aI_90 (by omega) (by omega), rg_tN, rg_up_s, rg_ui_s]
  try simp only [Int.reduceToNat, rg_kIs, rg_kLs, rg_kRs, rg_kVs, rg_nns, rg_bs, cond_true, cond_false]
  rw [if_pos (by decide)]
/-- what stands there, tried -/
theorem rg_M_pl_t {a t : Nat} (ha : a ≤ 4) (ht : t < 15) {s : Nat → Int} {m : Int} (hs : sp_st m s) (z2 : 1 ≤ s 2 ∧ s 2 ≤ 6) (hp' : ∀ q, q < 37 → D 89 (37 * a + q) = s q) (d : Nat) (n f g M : Int) : ∃ u, E37 u s ∧ rf_j_M_plans_89 (d + 5) 77 n f g M (a : Int) (some 90) (a : Int) (t : Int) (hp X D) = (if sp_can s (t : Int) = true then (if ((a + 1 : Nat) : Int) = n then (if g < pn_st s t 35 then rf_j_M_plans_173 (d + 5) 77 n f g M (a : Int) (some 77) (D 77 20) 1 (hp X (rg_up (rg_up D 90 (rg_ui (D 90) a (t : Int))) 88 (sp_does u (t : Int) (sp_rail s)).2)) else rf_j_M_plans_173 (d + 5) 77 n f g M (a : Int) (some 77) (D 77 20) 0 (hp X (rg_up (rg_up D 90 (rg_ui (D 90) a (t : Int))) 88 (sp_does u (t : Int) (sp_rail s)).2))) else (rf_call (d + 5) 174 [.inr (.inr (some 77)), .inl (((a + 1 : Nat) : Int))] (hp X (rg_up (rg_up D 90 (rg_ui (D 90) a (t : Int))) 88 (sp_does u (t : Int) (sp_rail s)).2))).bind fun q24 => rf_kV q24 fun h23 => ((rf_gR h23 5 77 19).bind fun x25 => (rf_nn x25 fun k26 => ((rf_sI h23 k26 (((a + 1 : Nat) : Int)) (-9)).bind fun h27 => rf_j_M_plans_38 (d + 5) 77 n f g M (((a + 1 : Nat) : Int)) h27)))) else rf_j_M_plans_38 (d + 5) 77 n f g M (a : Int) (hp X (rg_up (rg_up D 90 (rg_ui (D 90) a (t : Int))) 88 u))) := by
  obtain ⟨D1, hD1⟩ : ∃ D1, D1 = rg_up D 90 (rg_ui (D 90) a (t : Int)) := ⟨_, rfl⟩
  have D1n : ∀ x, x ≠ 90 → D1 x = D x := fun x y => by rw [hD1, rg_up_n y]
  have D19 : D1 90 a = (t : Int) := by rw [hD1, rg_up_s, rg_ui_s]
  obtain ⟨u, hu⟩ : ∃ u, u = sd_r (D1 88) (D1 89) a := ⟨_, rfl⟩
  have E1 : E37 u s := fun q hq => by
    rw [hu]
    show (if 0 ≤ q ∧ q < 37 then D1 89 (37 * a + q) else D1 88 q) = s q
    rw [if_pos ⟨Nat.zero_le _, hq⟩, D1n 89 (by decide), hp' q hq]
  have b33 := hs.2.2.2.2.2.2.1
  have b34 := hs.2.2.2.2.2.2.2.1
  have dd := E1.does b33.1 (by omega) (t : Int) (sp_rail s)
  obtain ⟨w, hw⟩ : ∃ w, w = (sp_does u (t : Int) (sp_rail s)).2 := ⟨_, rfl⟩
  have w35 : w 35 = pn_st s t 35 := by
    rw [hw]
    exact dd.2 35 (by decide)
  obtain ⟨p35, hp35⟩ : ∃ p35, p35 = pn_st s t 35 := ⟨_, rfl⟩
  rw [← hp35] at w35
  refine ⟨u, E1, ?_⟩
  have ya : a ≤ 1000 := by omega
  rw [← hw, ← hD1, ← hp35, rf_e_M_plans_89, xs_1 ya, xs_m1 ya]
  try simp only [Int.reduceToNat, rg_kIs, rg_kLs, rg_kRs, rg_kVs, rg_nns, rg_bs, cond_true, cond_false]
  rw [rg_sI_90 (by omega) (by omega), rg_tN, ← hD1]
  try simp only [rg_gR_77_19, Int.reduceToNat, rg_kIs, rg_kLs, rg_kRs, rg_kVs, rg_nns, rg_bs, cond_true, cond_false]
  rw [rg_aI_90 (by omega) (by omega), rg_tN, D19]
  try simp only [Int.reduceToNat, rg_kIs, rg_kLs, rg_kRs, rg_kVs, rg_nns, rg_bs, cond_true, cond_false]
  rw [if_neg (by omega)]
  try simp only [rg_hp1, rg_o_77, Int.reduceToNat, rg_kIs, rg_kLs, rg_kRs, rg_kVs, rg_nns, rg_bs, cond_true, cond_false]
  rw [rg_M_stands (d + 4) ha, ← hu]
  try simp only [rg_gR_77_19, Int.reduceToNat, rg_kIs, rg_kLs, rg_kRs, rg_kVs, rg_nns, rg_bs, cond_true, cond_false]
  rw [rg_aI_90 (by omega) (by omega), rg_tN, rg_up_n (show (90 : Nat) ≠ 88 by decide), D19]
  try simp only [rg_hp1, rg_o_77, Int.reduceToNat, rg_kIs, rg_kLs, rg_kRs, rg_kVs, rg_nns, rg_bs, cond_true, cond_false]
  rw [rg_M_can, rg_up_s, E1.can]
  try simp only [Int.reduceToNat, rg_kIs, rg_kLs, rg_kRs, rg_kVs, rg_nns, rg_bs, cond_true, cond_false]
  by_cases y : sp_can s (t : Int) = true
  · rw [if_pos y, if_pos y, if_neg (by decide)]
    try simp only [rg_gR_77_19, Int.reduceToNat, rg_kIs, rg_kLs, rg_kRs, rg_kVs, rg_nns, rg_bs, cond_true, cond_false]
    rw [rg_aI_90 (by omega) (by omega), rg_tN, rg_up_n (show (90 : Nat) ≠ 88 by decide), D19]
    try simp only [rg_hp1, rg_o_77, Int.reduceToNat, rg_kIs, rg_kLs, rg_kRs, rg_kVs, rg_nns, rg_bs, cond_true, cond_false]
    rw [rg_M_railNow (d + 4) (by rw [rg_up_s, E1 34 (by decide)]; exact b34.1) (by rw [rg_up_s, E1 2 (by decide)]; exact z2.1) (by rw [rg_up_s, E1 2 (by decide)]; exact z2.2), rg_up_s, E1.rail b34.1 z2.1 z2.2]
    try simp only [rg_hp1, rg_o_77, Int.reduceToNat, rg_kIs, rg_kLs, rg_kRs, rg_kVs, rg_nns, rg_bs, cond_true, cond_false]
    rw [rg_M_does d _ _ (by rw [rg_up_s, E1 33 (by decide)]; exact b33.1) (by rw [rg_up_s, E1 33 (by decide), E1 36 (by decide)]; exact b33.2.1) (by rw [rg_up_s, E1 36 (by decide)]; exact b33.2.2), rg_up_s, rg_up_u, ← hw]
    try simp only [Int.reduceToNat, rg_kIs, rg_kLs, rg_kRs, rg_kVs, rg_nns, rg_bs, cond_true, cond_false]
    by_cases z : ((a + 1 : Nat) : Int) = n
    · rw [if_pos z, if_pos z]
      try simp only [rg_gI_77, rg_gR_77_17, Int.reduceToNat, rg_kIs, rg_kLs, rg_kRs, rg_kVs, rg_nns, rg_bs, cond_true, cond_false]
      rw [rg_aI_88 (by decide) (by decide)]
      try simp only [Int.reduceToNat, rg_kIs, rg_kLs, rg_kRs, rg_kVs, rg_nns, rg_bs, cond_true, cond_false]
      rw [rg_up_s, w35, rg_up_n (show (77 : Nat) ≠ 88 by decide), D1n 77 (by decide)]
    · rw [if_neg z, if_neg z]
      try simp only [rg_hp1, rg_o_77, Int.reduceToNat, rg_kIs, rg_kLs, rg_kRs, rg_kVs, rg_nns, rg_bs, cond_true, cond_false]
  · rw [if_neg y, if_neg y, if_pos (by decide)]
end RGS35
