/-! A book of tries. -/
/-- a number of a book is such -/
def bk_c (f : Nat → Int) (i : Nat) : Bool := decide (0 ≤ f i ∧ f i ≤ (if i % 3 = 0 then 2 else if i % 3 = 1 then 9 else 1))
def bk_all (f : Nat → Int) : Nat → Nat → Bool
  | _, 0 => true
  | i, k + 1 => bk_c f i && bk_all f (i + 1) k
def bk_3 (f : Nat → Int) : Nat → Nat → Bool
  | _, 0 => true
  | t, u + 1 => (bk_c f (3 * t) && bk_c f (3 * t + 1) && bk_c f (3 * t + 2)) && bk_3 f (t + 1) u
theorem bk_all_3 (f : Nat → Int) : ∀ (u t : Nat), bk_all f (3 * t) (3 * u) = bk_3 f t u
  | 0, t => rfl
  | u + 1, t => by
    have ih := bk_all_3 f u (t + 1)
    rw [show 3 * (u + 1) = 3 * u + 1 + 1 + 1 by omega]
    show (bk_c f (3 * t) && (bk_c f (3 * t + 1) && (bk_c f (3 * t + 1 + 1) && bk_all f (3 * t + 1 + 1 + 1) (3 * u)))) = ((bk_c f (3 * t) && bk_c f (3 * t + 1) && bk_c f (3 * t + 2)) && bk_3 f (t + 1) u)
    rw [← ih, show 3 * (t + 1) = 3 * t + 1 + 1 + 1 by omega]
    cases bk_c f (3 * t) <;> cases bk_c f (3 * t + 1) <;> rfl
theorem bk_all_of {f g : Nat → Int} : ∀ (k i : Nat), (∀ j, i ≤ j → j < i + k → f j = g j) → bk_all f i k = bk_all g i k
  | 0, _, _ => rfl
  | k + 1, i, h => by
    show (bk_c f i && bk_all f (i + 1) k) = (bk_c g i && bk_all g (i + 1) k)
    rw [bk_all_of k (i + 1) fun j h1 h2 => h j (by omega) (by omega)]
    unfold bk_c
    rw [h i (by omega) (by omega)]
/-- whether a try is a lie -/
def li_v (f : Nat → Int) (w : Int) (t : Nat) : Int := if f (3 * t + 2) = 1 then (if rf_w (w * rf_w (3 - f (3 * t))) < rf_w (2 * f (3 * t + 1)) then 0 else 1) else (if rf_w (w * rf_w (3 - f (3 * t))) < rf_w (2 * f (3 * t + 1)) then 1 else 0)
def ct_v (f : Nat → Int) (w : Int) : Nat → Int
  | 0 => 0
  | t + 1 => if li_v f w t = 0 then rf_w (ct_v f w t + 0) else rf_w (ct_v f w t + 1)
theorem ct_b (f : Nat → Int) (w : Int) : ∀ {t : Nat}, t ≤ 1000 → 0 ≤ ct_v f w t ∧ ct_v f w t ≤ (t : Int)
  | 0, _ => ⟨Int.le_refl _, Int.le_refl _⟩
  | t + 1, h => by
    have ih := ct_b f w (t := t) (by omega)
    have e : ct_v f w (t + 1) = (if li_v f w t = 0 then rf_w (ct_v f w t + 0) else rf_w (ct_v f w t + 1)) := rfl
    rw [e]
    by_cases a : li_v f w t = 0
    · rw [if_pos a, rg_w (by omega) (by omega)]
      omega
    · rw [if_neg a, rg_w (by omega) (by omega)]
      omega
theorem ct_s (f : Nat → Int) (w : Int) {t : Nat} (h : t ≤ 900) : ct_v f w (t + 1) = 0 ↔ (ct_v f w t = 0 ∧ li_v f w t = 0) := by
  have b := ct_b f w (t := t) (by omega)
  show (if li_v f w t = 0 then rf_w (ct_v f w t + 0) else rf_w (ct_v f w t + 1)) = 0 ↔ _
  by_cases a : li_v f w t = 0
  · rw [if_pos a, rg_w (by omega) (by omega)]
    exact ⟨fun z => ⟨by omega, a⟩, fun z => by omega⟩
  · rw [if_neg a, rg_w (by omega) (by omega)]
    exact ⟨fun z => by omega, fun z => absurd z.2 a⟩
theorem ct_m (f : Nat → Int) (w : Int) {t : Nat} (h : ct_v f w t ≠ 0) : ∀ (k : Nat), t + k ≤ 900 → ct_v f w (t + k) ≠ 0
  | 0, _ => h
  | k + 1, hk => by
    have ih := ct_m f w h k (by omega)
    intro z
    rw [show t + (k + 1) = (t + k) + 1 by omega] at z
    exact ih ((ct_s f w (by omega)).1 z).1
def fi_v (f : Nat → Int) (w : Int) : Nat → Int
  | 0 => -9
  | t + 1 => if li_v f w t = 0 then fi_v f w t else if ct_v f w t = 0 then (t : Int) else fi_v f w t
theorem fi_0 (f : Nat → Int) (w : Int) : ∀ {t : Nat}, t ≤ 900 → ct_v f w t = 0 → fi_v f w t = -9
  | 0, _, _ => rfl
  | t + 1, h, z => by
    have y := (ct_s f w (by omega)).1 z
    show (if li_v f w t = 0 then fi_v f w t else if ct_v f w t = 0 then (t : Int) else fi_v f w t) = -9
    rw [if_pos y.2]
    exact fi_0 f w (by omega) y.1
theorem fi_m (f : Nat → Int) (w : Int) {t : Nat} (h : ct_v f w t ≠ 0) : ∀ (k : Nat), t + k ≤ 900 → fi_v f w (t + k) = fi_v f w t
  | 0, _ => rfl
  | k + 1, hk => by
    have ih := fi_m f w h k (by omega)
    have c := ct_m f w h k (by omega)
    show (if li_v f w (t + k) = 0 then fi_v f w (t + k) else if ct_v f w (t + k) = 0 then ((t + k : Nat) : Int) else fi_v f w (t + k)) = fi_v f w t
    rw [if_neg c, ih]
    split <;> rfl
def wt_v (f : Nat → Int) (T : Nat) : Nat → Int
  | 0 => 0
  | k + 1 => if ct_v f ((k + 1 : Nat) : Int) T = 0 then rf_or (wt_v f T k) (rf_shl 1 ((k + 1 : Nat) : Int)) else wt_v f T k
theorem rf_or0 (x y : Int) : rf_or (rf_or x y) 0 = rf_or x y := by
  unfold rf_or
  rw [Int32.ofInt_toInt, show Int32.ofInt 0 = 0 from rfl, Int32.or_zero]
theorem wt_or (f : Nat → Int) (T : Nat) : ∀ (k : Nat), rf_or (wt_v f T k) 0 = wt_v f T k
  | 0 => by
    show rf_or 0 0 = 0
    decide
  | k + 1 => by
    show rf_or (if ct_v f ((k + 1 : Nat) : Int) T = 0 then rf_or (wt_v f T k) (rf_shl 1 ((k + 1 : Nat) : Int)) else wt_v f T k) 0 = (if ct_v f ((k + 1 : Nat) : Int) T = 0 then rf_or (wt_v f T k) (rf_shl 1 ((k + 1 : Nat) : Int)) else wt_v f T k)
    split
    · exact rf_or0 _ _
    · exact wt_or f T k
section RGS17
variable {X : rf_X} {D : rf_D} {o n Z T : Nat}
theorem rg_W_slips (d : Nat) (w r s : Int) (h : rf_H) : rf_call (d + 2) 101 [.inl w, .inl r, .inl s] h = some (some (.inl (if rf_w (w * rf_w (3 - r)) < rf_w (2 * s) then 1 else 0)), h) := by
  rw [rf_e_W_slips, rf_e_W_gripFactor]
  try simp only [Int.reduceToNat, rg_kIs, rg_kLs, rg_kRs, rg_kVs, rg_nns, rg_bs, cond_true, cond_false]
  split <;> rfl
theorem rg_W_isLie (hr : rg_row o n) (hZ : D o 1 = ((3 * T : Nat) : Int)) (hn : 3 * T ≤ n) (n1 : n ≤ 1000) (d : Nat) (w : Int) {t : Nat} (ht : t < T) : rf_call (d + 3) 100 [.inr (.inr (some o)), .inl w, .inl (t : Int)] (hp X D) = some (some (.inl (li_v (D (o + 1)) w t)), hp X D) := by
  have x1 : rf_w ((t : Int) * 3) = 3 * (t : Int) := by
    rw [rg_w (by omega) (by omega)]
    omega
  have x2 : rf_w (3 * (t : Int) + 2) = 3 * (t : Int) + 2 := rg_w (by omega) (by omega)
  have x3 : rf_w (3 * (t : Int) + 1) = 3 * (t : Int) + 1 := rg_w (by omega) (by omega)
  have c0 := rg_R_cellI (X := X) (D := D) hr (d + 1) (i := 3 * (t : Int)) (by omega) (by omega) (by omega)
  have c1 := rg_R_cellI (X := X) (D := D) hr (d + 1) (i := 3 * (t : Int) + 1) (by omega) (by omega) (by omega)
  have c2 := rg_R_cellI (X := X) (D := D) hr (d + 1) (i := 3 * (t : Int) + 2) (by omega) (by omega) (by omega)
  rw [show (3 * (t : Int)).toNat = 3 * t by omega] at c0
  rw [show (3 * (t : Int) + 1).toNat = 3 * t + 1 by omega] at c1
  rw [show (3 * (t : Int) + 2).toNat = 3 * t + 2 by omega] at c2
  have j : ∀ z : Int, rf_j_W_isLie_20 (d + 2) (some o) w (3 * (t : Int)) z (hp X D) = some (some (.inl (if (if rf_w (w * rf_w (3 - D (o + 1) (3 * t))) < rf_w (2 * D (o + 1) (3 * t + 1)) then 1 else 0) = z then 0 else 1)), hp X D) := fun z => by
    rw [rf_e_W_isLie_20]
    try simp only [rg_hp1, rg_row_o hr, Int.reduceToNat, rg_kIs, rg_kLs, rg_kRs, rg_kVs, rg_nns, rg_bs, cond_true, cond_false]
    rw [c0]
    try simp only [rg_hp1, rg_row_o hr, Int.reduceToNat, rg_kIs, rg_kLs, rg_kRs, rg_kVs, rg_nns, rg_bs, cond_true, cond_false, x3]
    rw [c1]
    try simp only [Int.reduceToNat, rg_kIs, rg_kLs, rg_kRs, rg_kVs, rg_nns, rg_bs, cond_true, cond_false]
    rw [rg_W_slips]
    try simp only [Int.reduceToNat, rg_kIs, rg_kLs, rg_kRs, rg_kVs, rg_nns, rg_bs, cond_true, cond_false]
    by_cases y : (if rf_w (w * rf_w (3 - D (o + 1) (3 * t))) < rf_w (2 * D (o + 1) (3 * t + 1)) then (1 : Int) else 0) = z
    · rw [if_pos y, if_pos y]
    · rw [if_neg y, if_neg y]
  rw [rf_e_W_isLie]
  try simp only [rg_hp1, rg_row_o hr, Int.reduceToNat, rg_kIs, rg_kLs, rg_kRs, rg_kVs, rg_nns, rg_bs, cond_true, cond_false, x1, x2]
  rw [c2]
  try simp only [Int.reduceToNat, rg_kIs, rg_kLs, rg_kRs, rg_kVs, rg_nns, rg_bs, cond_true, cond_false]
  unfold li_v
  by_cases a : D (o + 1) (3 * t + 2) = 1
  · rw [if_pos a, if_pos a, j]
    by_cases b : rf_w (w * rf_w (3 - D (o + 1) (3 * t))) < rf_w (2 * D (o + 1) (3 * t + 1))
    · rw [if_pos b]
      try rw [if_pos b]
      rw [if_pos (by decide)]
    · rw [if_neg b]
      try rw [if_neg b]
      rw [if_neg (by decide)]
  · rw [if_neg a, if_neg a, j]
    by_cases b : rf_w (w * rf_w (3 - D (o + 1) (3 * t))) < rf_w (2 * D (o + 1) (3 * t + 1))
    · rw [if_pos b]
      try rw [if_pos b]
      rw [if_neg (by decide)]
    · rw [if_neg b]
      try rw [if_neg b]
      rw [if_pos (by decide)]
theorem rg_W_cl_4 (hr : rg_row o n) (hZ : D o 1 = ((3 * T : Nat) : Int)) (hn : 3 * T ≤ n) (n1 : n ≤ 1000) (d : Nat) (w : Int) : ∀ (k t : Nat), t + k = T → rf_j_W_countLies_4 (d + 3) (some o) w (ct_v (D (o + 1)) w t) (t : Int) (hp X D) = some (some (.inl (ct_v (D (o + 1)) w T)), hp X D)
  | 0, t, hk => by
    have x1 : rf_w ((t : Int) * 3) = 3 * (t : Int) := by
      rw [rg_w (by omega) (by omega)]
      omega
    rw [rf_e_W_countLies_4]
    try simp only [rg_row_gI hr, Int.reduceToNat, rg_kIs, rg_kLs, rg_kRs, rg_kVs, rg_nns, rg_bs, cond_true, cond_false, x1]
    rw [hZ, if_neg (by omega), show t = T by omega]
  | k + 1, t, hk => by
    have x1 : rf_w ((t : Int) * 3) = 3 * (t : Int) := by
      rw [rg_w (by omega) (by omega)]
      omega
    have x2 : rf_w ((t : Int) + 1) = ((t + 1 : Nat) : Int) := by
      rw [rg_w (by omega) (by omega)]
      omega
    have ih := rg_W_cl_4 hr hZ hn n1 d w k (t + 1) (by omega)
    have e : ct_v (D (o + 1)) w (t + 1) = (if li_v (D (o + 1)) w t = 0 then rf_w (ct_v (D (o + 1)) w t + 0) else rf_w (ct_v (D (o + 1)) w t + 1)) := rfl
    rw [rf_e_W_countLies_4]
    try simp only [rg_row_gI hr, Int.reduceToNat, rg_kIs, rg_kLs, rg_kRs, rg_kVs, rg_nns, rg_bs, cond_true, cond_false, x1, x2]
    rw [hZ, if_pos (by omega), rg_W_isLie hr hZ hn n1 d w (t := t) (by omega)]
    try simp only [Int.reduceToNat, rg_kIs, rg_kLs, rg_kRs, rg_kVs, rg_nns, rg_bs, cond_true, cond_false]
    rw [e] at ih
    by_cases a : li_v (D (o + 1)) w t = 0
    · rw [if_pos a] at ih ⊢
      exact ih
    · rw [if_neg a] at ih ⊢
      exact ih
theorem rg_W_cl (hr : rg_row o n) (hZ : D o 1 = ((3 * T : Nat) : Int)) (hn : 3 * T ≤ n) (n1 : n ≤ 1000) (d : Nat) (w : Int) : rf_call (d + 4) 99 [.inr (.inr (some o)), .inl w] (hp X D) = some (some (.inl (ct_v (D (o + 1)) w T)), hp X D) := by
  rw [rf_e_W_countLies]
  exact rg_W_cl_4 hr hZ hn n1 d w T 0 (by omega)
theorem rg_W_rb_30 (hr : rg_row o n) (hZ : D o 1 = (Z : Int)) (hn : Z ≤ n) (n1 : n ≤ 1000) (h6 : D 6 1 = 6) (d : Nat) : ∀ (k i : Nat), i + k = Z → rf_j_W_refusedBook_30 (d + 3) 0 (some o) (i : Int) (hp X D) = (if bk_all (D (o + 1)) i k = true then some (some (.inl 0), hp X D) else some (some (.inl (-3)), hp X (wfd 3 D)))
  | 0, i, hk => by
    rw [rf_e_W_refusedBook_30]
    try simp only [rg_row_gI hr, Int.reduceToNat, rg_kIs, rg_kLs, rg_kRs, rg_kVs, rg_nns, rg_bs, cond_true, cond_false]
    rw [hZ, if_neg (by omega), show bk_all (D (o + 1)) i 0 = true from rfl, if_pos (by decide)]
  | k + 1, i, hk => by
    have x2 : rf_w ((i : Int) + 1) = ((i + 1 : Nat) : Int) := by
      rw [rg_w (by omega) (by omega)]
      omega
    have ih := rg_W_rb_30 hr hZ hn n1 h6 d k (i + 1) (by omega)
    have c0 := rg_R_cellI (X := X) (D := D) hr (d + 2) (i := (i : Int)) (by omega) (by omega) (by omega)
    rw [rg_tN] at c0
    have e : bk_all (D (o + 1)) i (k + 1) = (bk_c (D (o + 1)) i && bk_all (D (o + 1)) (i + 1) k) := rfl
    have j : ∀ z : Int, z = (if i % 3 = 0 then 2 else if i % 3 = 1 then 9 else 1) → rf_j_W_refusedBook_61 (d + 3) 0 (some o) (i : Int) z (hp X D) = (if bk_all (D (o + 1)) i (k + 1) = true then some (some (.inl 0), hp X D) else some (some (.inl (-3)), hp X (wfd 3 D))) := fun z hz => by
      rw [rf_e_W_refusedBook_61]
      try simp only [rg_hp1, rg_row_o hr, Int.reduceToNat, rg_kIs, rg_kLs, rg_kRs, rg_kVs, rg_nns, rg_bs, cond_true, cond_false]
      rw [c0]
      try simp only [rg_hp1, rg_row_o hr, rg_o_0, Int.reduceToNat, rg_kIs, rg_kLs, rg_kRs, rg_kVs, rg_nns, rg_bs, cond_true, cond_false]
      by_cases a : D (o + 1) i < 0
      · have b : bk_c (D (o + 1)) i = false := decide_eq_false (fun q => by omega)
        rw [if_pos a, rg_W_found d (by decide) (by decide) h6, e, b, Bool.false_and, if_neg (by decide)]
        try simp only [Int.reduceToNat, rg_kIs, rg_kLs, rg_kRs, rg_kVs, rg_nns, rg_bs, cond_true, cond_false]
      · rw [if_neg a, c0]
        try simp only [rg_hp1, rg_row_o hr, rg_o_0, Int.reduceToNat, rg_kIs, rg_kLs, rg_kRs, rg_kVs, rg_nns, rg_bs, cond_true, cond_false]
        by_cases a2 : z < D (o + 1) i
        · have b : bk_c (D (o + 1)) i = false := decide_eq_false (fun q => by omega)
          rw [if_pos a2, rg_W_found d (by decide) (by decide) h6, e, b, Bool.false_and, if_neg (by decide)]
          try simp only [Int.reduceToNat, rg_kIs, rg_kLs, rg_kRs, rg_kVs, rg_nns, rg_bs, cond_true, cond_false]
        · have b : bk_c (D (o + 1)) i = true := decide_eq_true (by omega)
          rw [if_neg a2, x2, e, b, Bool.true_and]
          exact ih
    have m : Int.tmod (i : Int) 3 = ((i % 3 : Nat) : Int) := by
      rw [Int.tmod_eq_emod_of_nonneg (by omega)]
      omega
    rw [rf_e_W_refusedBook_30]
    try simp only [rg_row_gI hr, Int.reduceToNat, rg_kIs, rg_kLs, rg_kRs, rg_kVs, rg_nns, rg_bs, cond_true, cond_false]
    rw [hZ, if_pos (by omega), m]
    by_cases a : i % 3 = 0
    · rw [if_pos (by omega)]
      exact j 2 (by rw [if_pos a])
    · rw [if_neg (by omega)]
      by_cases b : i % 3 = 1
      · rw [if_pos (by omega)]
        exact j 9 (by rw [if_neg a, if_pos b])
      · rw [if_neg (by omega)]
        exact j 1 (by rw [if_neg a, if_neg b])
/-- what stands against a book -/
def bo_v (f : Nat → Int) (z : Int) : Int := if z < 0 then 1 else if z % 3 = 0 then (if bk_all f 0 z.toNat = true then 0 else 3) else 5
theorem bo_b (f : Nat → Int) (z : Int) : 0 ≤ bo_v f z ∧ bo_v f z < 6 := by
  unfold bo_v
  repeat' split
  all_goals omega
theorem rg_W_rb (hr : rg_row o n) (z1 : -1 ≤ D o 1) (hn : D o 1 ≤ (n : Int)) (n1 : n ≤ 1000) (h6 : D 6 1 = 6) (d : Nat) : rf_call (d + 4) 98 [.inr (.inr (some 0)), .inr (.inr (some o))] (hp X D) = some (if bo_v (D (o + 1)) (D o 1) = 0 then (some (.inl 0), hp X D) else (some (.inl (-3)), hp X (wfd (bo_v (D (o + 1)) (D o 1)) D))) := by
  rw [rf_e_W_refusedBook]
  try simp only [rg_hp1, rg_row_o hr, Int.reduceToNat, rg_kIs, rg_kLs, rg_kRs, rg_kVs, rg_nns, rg_bs, cond_true, cond_false]
  rw [rg_R_isThere hr]
  try simp only [rg_hp1, rg_o_0, Int.reduceToNat, rg_kIs, rg_kLs, rg_kRs, rg_kVs, rg_nns, rg_bs, cond_true, cond_false]
  by_cases a : D o 1 < 0
  · have b : bo_v (D (o + 1)) (D o 1) = 1 := if_pos a
    rw [if_pos a, if_pos (by decide), rg_W_found d (by decide) (by decide) h6, b, if_neg (by decide)]
    try simp only [Int.reduceToNat, rg_kIs, rg_kLs, rg_kRs, rg_kVs, rg_nns, rg_bs, cond_true, cond_false]
  · obtain ⟨Z, hZ⟩ := Int.eq_ofNat_of_zero_le (show 0 ≤ D o 1 by omega)
    have m : Int.tmod (Z : Int) 3 = (Z : Int) % 3 := Int.tmod_eq_emod_of_nonneg (by omega)
    rw [if_neg a, if_neg (by decide)]
    try simp only [rg_row_gI hr, Int.reduceToNat, rg_kIs, rg_kLs, rg_kRs, rg_kVs, rg_nns, rg_bs, cond_true, cond_false]
    rw [hZ, m]
    by_cases c : (Z : Int) % 3 = 0
    · have b : bo_v (D (o + 1)) (Z : Int) = (if bk_all (D (o + 1)) 0 Z = true then 0 else 3) := by
        unfold bo_v
        rw [if_neg (by omega), if_pos c, rg_tN]
      have l := rg_W_rb_30 (X := X) hr hZ (by omega) n1 h6 d Z 0 (by omega)
      rw [show ((0 : Nat) : Int) = 0 from rfl] at l
      rw [if_pos c, l, b]
      by_cases g : bk_all (D (o + 1)) 0 Z = true
      · rw [if_pos g, if_pos g, if_pos (by decide)]
      · rw [if_neg g, if_neg g, if_neg (by decide)]
    · have b : bo_v (D (o + 1)) (Z : Int) = 5 := by
        unfold bo_v
        rw [if_neg (by omega), if_neg c]
      rw [if_neg c, b, if_neg (by decide), rg_W_found d (by decide) (by decide) h6]
      try simp only [Int.reduceToNat, rg_kIs, rg_kLs, rg_kRs, rg_kVs, rg_nns, rg_bs, cond_true, cond_false]
end RGS17
section RGS18
variable {X : rf_X} {D : rf_D} {R Z T : Nat} {f : Nat → Int}
theorem rg_W_wts_33 {o n : Nat} (hr : rg_row o n) (hZ : D o 1 = ((3 * T : Nat) : Int)) (hn : 3 * T ≤ n) (n1 : n ≤ 1000) (d : Nat) : ∀ (k w : Nat), w + k = 9 → rf_j_W_weights_33 (d + 4) (some o) (wt_v (D (o + 1)) T w) ((w + 1 : Nat) : Int) (hp X D) = some (some (.inl (wt_v (D (o + 1)) T 9)), hp X D)
  | 0, w, hk => by
    rw [rf_e_W_weights_33, if_pos (by omega), show w = 9 by omega]
  | k + 1, w, hk => by
    have x2 : rf_w (((w + 1 : Nat) : Int) + 1) = ((w + 1 + 1 : Nat) : Int) := by
      rw [rg_w (by omega) (by omega)]
      omega
    have ih := rg_W_wts_33 hr hZ hn n1 d k (w + 1) (by omega)
    have e : wt_v (D (o + 1)) T (w + 1) = (if ct_v (D (o + 1)) ((w + 1 : Nat) : Int) T = 0 then rf_or (wt_v (D (o + 1)) T w) (rf_shl 1 ((w + 1 : Nat) : Int)) else wt_v (D (o + 1)) T w) := rfl
    rw [rf_e_W_weights_33, if_neg (by omega), rg_W_cl hr hZ hn n1 d]
    try simp only [Int.reduceToNat, rg_kIs, rg_kLs, rg_kRs, rg_kVs, rg_nns, rg_bs, cond_true, cond_false, x2]
    rw [e] at ih
    by_cases a : ct_v (D (o + 1)) ((w + 1 : Nat) : Int) T = 0
    · rw [if_pos a] at ih ⊢
      exact ih
    · rw [if_neg a] at ih ⊢
      exact ih
theorem rg_W_lies_71 {o n : Nat} (hr : rg_row o n) (hZ : D o 1 = ((3 * T : Nat) : Int)) (hn : 3 * T ≤ n) (n1 : n ≤ 1000) (d : Nat) (w : Int) {t : Nat} (ht : t ≤ T) {v : Int} (hv : v = (if t < T then (t : Int) else -9)) : rf_j_W_lies_71 (d + 4) 0 w (some o) (t : Int) (hp X D) = some (some (.inl (ct_v (D (o + 1)) w T)), hp X (wtl v D)) := by
  have x1 : rf_w ((t : Int) * 3) = 3 * (t : Int) := by
    rw [rg_w (by omega) (by omega)]
    omega
  rw [rf_e_W_lies_71]
  try simp only [rg_row_gI hr, Int.reduceToNat, rg_kIs, rg_kLs, rg_kRs, rg_kVs, rg_nns, rg_bs, cond_true, cond_false, x1]
  rw [hZ]
  by_cases a : t < T
  · rw [if_pos a] at hv
    rw [if_pos (by omega), rg_W_cl hr hZ hn n1 d]
    try simp only [rg_hp1, rg_o_0, Int.reduceToNat, rg_kIs, rg_kLs, rg_kRs, rg_kVs, rg_nns, rg_bs, cond_true, cond_false]
    rw [rg_W_tell, hv]
    try simp only [Int.reduceToNat, rg_kIs, rg_kLs, rg_kRs, rg_kVs, rg_nns, rg_bs, cond_true, cond_false]
  · rw [if_neg a] at hv
    rw [if_neg (by omega), rg_W_cl hr hZ hn n1 d]
    try simp only [rg_hp1, rg_o_0, Int.reduceToNat, rg_kIs, rg_kLs, rg_kRs, rg_kVs, rg_nns, rg_bs, cond_true, cond_false]
    rw [rg_W_tell, hv]
    try simp only [Int.reduceToNat, rg_kIs, rg_kLs, rg_kRs, rg_kVs, rg_nns, rg_bs, cond_true, cond_false]
theorem rg_W_lies_44 {o n : Nat} (hr : rg_row o n) (hZ : D o 1 = ((3 * T : Nat) : Int)) (hn : 3 * T ≤ n) (n1 : n ≤ 1000) (d : Nat) (w : Int) : ∀ (k t : Nat), t + k = T → ct_v (D (o + 1)) w t = 0 → rf_j_W_lies_44 (d + 4) 0 w (some o) (t : Int) (hp X D) = some (some (.inl (ct_v (D (o + 1)) w T)), hp X (wtl (fi_v (D (o + 1)) w T) D))
  | 0, t, hk, hc => by
    have x1 : rf_w ((t : Int) * 3) = 3 * (t : Int) := by
      rw [rg_w (by omega) (by omega)]
      omega
    have tT : t = T := by omega
    rw [rf_e_W_lies_44]
    try simp only [rg_row_gI hr, Int.reduceToNat, rg_kIs, rg_kLs, rg_kRs, rg_kVs, rg_nns, rg_bs, cond_true, cond_false, x1]
    rw [hZ, if_neg (by omega)]
    refine rg_W_lies_71 hr hZ hn n1 d w (t := t) (by omega) ?_
    rw [if_neg (by omega), ← tT]
    exact fi_0 _ w (by omega) hc
  | k + 1, t, hk, hc => by
    have x1 : rf_w ((t : Int) * 3) = 3 * (t : Int) := by
      rw [rg_w (by omega) (by omega)]
      omega
    have x2 : rf_w ((t : Int) + 1) = ((t + 1 : Nat) : Int) := by
      rw [rg_w (by omega) (by omega)]
      omega
    have cs := ct_s (D (o + 1)) w (t := t) (by omega)
    rw [rf_e_W_lies_44]
    try simp only [rg_row_gI hr, Int.reduceToNat, rg_kIs, rg_kLs, rg_kRs, rg_kVs, rg_nns, rg_bs, cond_true, cond_false, x1]
    rw [hZ, if_pos (by omega), rg_W_isLie hr hZ hn n1 (d + 1) w (t := t) (by omega)]
    try simp only [Int.reduceToNat, rg_kIs, rg_kLs, rg_kRs, rg_kVs, rg_nns, rg_bs, cond_true, cond_false]
    by_cases a : li_v (D (o + 1)) w t = 0
    · rw [if_pos a, x2]
      exact rg_W_lies_44 hr hZ hn n1 d w k (t + 1) (by omega) (cs.2 ⟨hc, a⟩)
    · rw [if_neg a]
      refine rg_W_lies_71 hr hZ hn n1 d w (t := t) (by omega) ?_
      have m := fi_m (D (o + 1)) w (t := t + 1) (fun q => a (cs.1 q).2) k (by omega)
      rw [show t + 1 + k = T by omega] at m
      rw [if_pos (by omega), m]
      show (if li_v (D (o + 1)) w t = 0 then fi_v (D (o + 1)) w t else if ct_v (D (o + 1)) w t = 0 then (t : Int) else fi_v (D (o + 1)) w t) = _
      rw [if_neg a, if_pos hc]
end RGS18
section RGS19
variable {X : rf_X} {D : rf_D}
end RGS19
