/-! The law's own train: what it reckons in its row of eleven is what the class's train does. -/
def lo (P : rf_P) (X : rf_X) (D : rf_D) (o : Nat → Int) : rf_H := (rg_T ++ [.inr (0, 64), .inr (0, 11)], rg_up D 78 o, P, X)
def lc_AX (X : rf_X) (s : Nat → Int) : Prop := s 0 = lc_fi X 0 ∧ s 1 = lc_fi X 3 ∧ s 2 = lc_rs X ∧ (∀ i : Nat, (i : Int) < lc_rs X → s (3 + i) = lc_ra X (i : Int)) ∧ ∀ i : Nat, (i : Int) < lc_ws X → s (9 + 3 * i) = lc_wa X (i : Int) 0 ∧ s (10 + 3 * i) = lc_wa X (i : Int) 1 ∧ s (11 + 3 * i) = lc_wa X (i : Int) 2
def lc_ON (o s : Nat → Int) : Prop := ∀ j, j < 10 → o j = s (27 + j)
theorem lc_AX.of {X : rf_X} {s u : Nat → Int} (h : lc_AX X s) (e : ∀ j, j < 27 → u j = s j) : lc_AX X u := by
  have b := lc_rs_b X
  have c := lc_ws_b X
  refine ⟨by rw [e 0 (by decide)]; exact h.1, by rw [e 1 (by decide)]; exact h.2.1, by rw [e 2 (by decide)]; exact h.2.2.1, fun i hi => ?_, fun i hi => ?_⟩
  · rw [e (3 + i) (by omega)]
    exact h.2.2.2.1 i hi
  · rw [e (9 + 3 * i) (by omega), e (10 + 3 * i) (by omega), e (11 + 3 * i) (by omega)]
    exact h.2.2.2.2 i hi
theorem lc_AX.k {X : rf_X} {s : Nat → Int} (h : lc_AX X s) {n : Nat} (hn : (n : Int) < lc_ws X) : sp_kind s (n : Int) = lc_wa X (n : Int) 0 ∧ sp_tons s (n : Int) = lc_wa X (n : Int) 1 ∧ sp_coup s (n : Int) = lc_wa X (n : Int) 2 := by
  unfold sp_kind sp_tons sp_coup
  rw [show (9 + 3 * (n : Int)).toNat = 9 + 3 * n by omega, show (9 + 3 * (n : Int) + 1).toNat = 10 + 3 * n by omega, show (9 + 3 * (n : Int) + 2).toNat = 11 + 3 * n by omega]
  exact h.2.2.2.2 n hn
theorem lc_ON.ui {o s : Nat → Int} (h : lc_ON o s) (j : Nat) (v : Int) : lc_ON (rg_ui o j v) (rg_ui s (27 + j) v) := fun i hi => by
  by_cases z : i = j
  · rw [z, rg_ui_s, rg_ui_s]
  · rw [rg_ui_n z, rg_ui_n (show 27 + i ≠ 27 + j by omega)]
    exact h i hi
theorem lc_ON.hi {o s : Nat → Int} (h : lc_ON o s) (v : Int) : lc_ON (rg_ui o 10 v) s := fun i hi => by
  rw [rg_ui_n (show i ≠ 10 by omega)]
  exact h i hi
theorem lc_ON.same {o s : Nat → Int} (h : lc_ON o s) {j : Nat} {v : Int} (e : v = o j) : lc_ON (rg_ui o j v) s := by
  rw [e, rg_ui_i]
  exact h
section PQF
variable {P : rf_P} {X : rf_X} {D : rf_D} {o s : Nat → Int} {m : Int}
theorem lo_aI {j : Int} (j0 : 0 ≤ j) (j1 : j < 11) : rf_aI (lo P X D o) 78 j = some (o j.toNat) := by
  have e := rh_aI (T := rg_T ++ [.inr (0, 64), .inr (0, 11)]) (D := rg_up D 78 o) (P := P) (X := X) (n := 11) (k := 78) (by decide) rfl j0 j1
  rw [rg_up_s] at e
  exact e
theorem lo_sI {j v : Int} (j0 : 0 ≤ j) (j1 : j < 11) : rf_sI (lo P X D o) 78 j v = some (lo P X D (rg_ui o j.toNat v)) := by
  have e := rh_sI (T := rg_T ++ [.inr (0, 64), .inr (0, 11)]) (D := rg_up D 78 o) (P := P) (X := X) (n := 11) (k := 78) (v := v) rfl j0 j1
  rw [rg_up_s, rg_up_u] at e
  exact e
theorem lq_weighs (hA : lc_AX X s) (hO : lc_ON o s) {n : Nat} (hn : (n : Int) < lc_ws X) (d : Nat) : rf_call (d + 3) 123 [.inr (.inr (some 1000000)), .inr (.inr (some 78)), .inl (n : Int)] (lo P X D o) = some (some (.inl (sp_weighs s (n : Int))), lo P X D o) := by
  have k := hA.k hn
  have b0 := lc_wa_0 X (n : Int)
  have b1 := lc_wa_1 X (n : Int)
  have f3 := lc_fi_3 X (w := 3) (by decide) (by decide) (by decide)
  have w5 := lc_ws_b X
  have hX : (lo P X D o).2.2.2 = X := rfl
  have o4 := hO 4 (by decide)
  rw [show 27 + 4 = 31 from rfl] at o4
  have fin : ∀ v, rf_j_L_weighs_78 (d + 2) 1000000 v (lo P X D o) = some (some (.inl (rf_w (v + lc_fi X 3))), lo P X D o) := fun v => by
    rw [rf_e_L_weighs_78, lq_first hX d]
    simp only [Int.reduceToNat, rg_bs, rg_kIs]
  have e : sp_weighs s (n : Int) = rf_w (rf_w (sp_plain s (n : Int) + (if sp_kind s (n : Int) = 5 then (if s 31 = 1 then 3 else 0) else 0)) + s 1) := rfl
  rw [rf_e_L_weighs, lq_wagon hX d (i := (n : Int)) (by omega) (by omega) 0]
  simp only [Int.reduceToNat, rg_bs, rg_kIs]
  rw [lq_wagon hX d (i := (n : Int)) (by omega) (by omega) 1]
  simp only [Int.reduceToNat, rg_bs, rg_kIs]
  rw [e, hA.2.1]
  unfold sp_plain
  rw [k.1, k.2.1]
  generalize lc_wa X (n : Int) 0 = kd at b0 ⊢
  generalize lc_wa X (n : Int) 1 = t at b1 ⊢
  have W : ∀ z : Int, -1000 ≤ z → z ≤ 1000 → rf_w z = z := fun z h1 h2 => rg_w (by omega) (by omega)
  by_cases c1 : kd = 1
  · rw [if_pos c1, if_pos c1, if_neg (show ¬ kd = 5 by omega), rf_e_L_weighs_25, fin, W (t + t) (by omega) (by omega), W (2 * t) (by omega) (by omega), W (2 * t + 0) (by omega) (by omega), show 2 * t + 0 = t + t by omega]
  · rw [if_neg c1, if_neg c1]
    by_cases c2 : kd = 4
    · rw [if_pos c2, if_pos c2, if_neg (show ¬ kd = 5 by omega), rf_e_L_weighs_25, fin, W (t + t) (by omega) (by omega), W (2 * t) (by omega) (by omega), W (2 * t + 0) (by omega) (by omega), show 2 * t + 0 = t + t by omega]
    · rw [if_neg c2, if_neg c2]
      by_cases c3 : kd = 3
      · rw [if_pos c3, if_pos c3, if_neg (show ¬ kd = 5 by omega), W (t - 2) (by omega) (by omega)]
        by_cases c4 : t < 2
        · rw [if_pos c4, if_pos (by omega), fin]
          rfl
        · rw [if_neg c4, if_neg (by omega), fin, W (t - 2 + 0) (by omega) (by omega), show t - 2 + 0 = t - 2 by omega]
      · rw [if_neg c3, if_neg c3]
        by_cases c5 : kd = 5
        · rw [if_pos c5, if_pos c5, lo_aI (by decide) (by decide)]
          simp only [Int.reduceToNat, rg_bs, rg_kIs]
          rw [o4]
          by_cases c6 : s 31 = 1
          · rw [if_pos c6, if_pos c6, fin]
          · rw [if_neg c6, if_neg c6, rf_e_L_weighs_74, fin, W (t + 0) (by omega) (by omega), show t + 0 = t by omega]
        · rw [if_neg c5, if_neg c5, rf_e_L_weighs_74, fin, W (t + 0) (by omega) (by omega), show t + 0 = t by omega]
theorem lq_load_5 (hA : lc_AX X s) (hO : lc_ON o s) {N : Nat} (hN : (N : Int) ≤ lc_ws X) (d : Nat) : ∀ (k i : Nat), i + k = N → rf_j_L_load_5 (d + 3) 1000000 78 (N : Int) (sp_load s i) (i : Int) (lo P X D o) = some (some (.inl (sp_load s N)), lo P X D o)
  | 0, i, hk => by
    rw [rf_e_L_load_5, if_neg (by omega), show i = N by omega]
  | k + 1, i, hk => by
    have w5 := lc_ws_b X
    rw [rf_e_L_load_5, if_pos (by omega), lq_weighs hA hO (by omega) d]
    simp only [Int.reduceToNat, rg_bs, rg_kIs]
    rw [xs_1 (show i ≤ 1000 by omega)]
    exact lq_load_5 hA hO hN d k (i + 1) (by omega)
theorem lq_load (hA : lc_AX X s) (hO : lc_ON o s) {n : Int} (n0 : 0 ≤ n) (hn : n ≤ lc_ws X) (d : Nat) : rf_call (d + 4) 126 [.inr (.inr (some 1000000)), .inr (.inr (some 78)), .inl n] (lo P X D o) = some (some (.inl (sp_load s n.toNat)), lo P X D o) := by
  obtain ⟨N, rfl⟩ := Int.eq_ofNat_of_zero_le n0
  rw [rf_e_L_load]
  exact lq_load_5 hA hO hn d N 0 (by omega)
theorem lq_holds (hA : lc_AX X s) {n : Nat} (hn : (n : Int) < lc_ws X) (d : Nat) : rf_call (d + 3) 124 [.inr (.inr (some 1000000)), .inl (n : Int)] (lo P X D o) = some (some (.inl (sp_holds s (n : Int))), lo P X D o) := by
  have k := hA.k hn
  have w5 := lc_ws_b X
  have hX : (lo P X D o).2.2.2 = X := rfl
  rw [rf_e_L_holds, lq_wagon hX d (i := (n : Int)) (by omega) (by omega) 0]
  simp only [Int.reduceToNat, rg_bs, rg_kIs]
  unfold sp_holds
  rw [k.1, k.2.2]
  by_cases c : lc_wa X (n : Int) 0 = 4
  · rw [if_pos c, if_pos c, lq_wagon hX d (i := (n : Int)) (by omega) (by omega) 2]
    simp only [Int.reduceToNat, rg_bs, rg_kIs]
  · rw [if_neg c, if_neg c, lq_wagon hX d (i := (n : Int)) (by omega) (by omega) 2]
    simp only [Int.reduceToNat, rg_bs, rg_kIs]
theorem lq_slack (hA : lc_AX X s) {n : Nat} (hn : (n : Int) < lc_ws X) (d : Nat) : rf_call (d + 3) 125 [.inr (.inr (some 1000000)), .inl (n : Int)] (lo P X D o) = some (some (.inl (sp_slack s (n : Int))), lo P X D o) := by
  have k := hA.k hn
  have w5 := lc_ws_b X
  have hX : (lo P X D o).2.2.2 = X := rfl
  rw [rf_e_L_slack, lq_wagon hX d (i := (n : Int)) (by omega) (by omega) 0]
  simp only [Int.reduceToNat, rg_bs, rg_kIs]
  unfold sp_slack
  rw [k.1]
  by_cases c : lc_wa X (n : Int) 0 = 2
  · rw [if_pos c, if_pos c, rf_e_L_slack_20]
  · rw [if_neg c, if_neg c, lq_wagon hX d (i := (n : Int)) (by omega) (by omega) 0]
    simp only [Int.reduceToNat, rg_bs, rg_kIs]
    by_cases c2 : lc_wa X (n : Int) 0 = 5
    · rw [if_pos c2, if_pos c2, rf_e_L_slack_20]
    · rw [if_neg c2, if_neg c2]
theorem lq_grip (hA : lc_AX X s) (hO : lc_ON o s) (hs : sp_st m s) {r : Int} (r0 : 0 ≤ r) (r2 : r ≤ 2) (d : Nat) : rf_call (d + 3) 127 [.inr (.inr (some 1000000)), .inr (.inr (some 78)), .inl r] (lo P X D o) = some (some (.inl (sp_grip s r)), lo P X D o) := by
  have f0 := lc_fi_0 X
  have hX : (lo P X D o).2.2.2 = X := rfl
  have o2 := hO 2 (by decide)
  have o3 := hO 3 (by decide)
  rw [show 27 + 2 = 29 from rfl] at o2
  rw [show 27 + 3 = 30 from rfl] at o3
  have b29 := hs.2.2.1
  have b30 := hs.2.2.2.1
  have W : ∀ z : Int, -1000 ≤ z → z ≤ 1000 → rf_w z = z := fun z h1 h2 => rg_w (by omega) (by omega)
  have fin : ∀ v : Int, -1000 ≤ v → v ≤ 900 → rf_j_L_grip_29 (d + 2) 78 v (lo P X D o) = some (some (.inl (rf_w ((if v < 0 then 0 else v) + (if s 30 = 1 then 3 else 0)))), lo P X D o) := fun v h1 h2 => by
    rw [rf_e_L_grip_29]
    have e3 : rf_w (3 * o 3) = (if s 30 = 1 then 3 else 0) := by
      rw [o3, W (3 * s 30) (by omega) (by omega)]
      rcases b30 with h | h <;> rw [h] <;> rfl
    by_cases a : v < 0
    · rw [if_pos a, if_pos a, lo_aI (by decide) (by decide)]
      simp only [Int.reduceToNat, rg_bs, rg_kIs]
      rw [e3]
    · rw [if_neg a, if_neg a, lo_aI (by decide) (by decide)]
      simp only [Int.reduceToNat, rg_bs, rg_kIs]
      rw [e3]
  rw [rf_e_L_grip, lq_first hX (d + 0) 0]
  simp only [Int.reduceToNat, rg_bs, rg_kIs]
  unfold sp_grip sp_bare
  rw [hA.1]
  generalize lc_fi X 0 = w at f0 ⊢
  have hr : r = 0 ∨ r = 1 ∨ r = 2 := by omega
  rcases hr with rfl | rfl | rfl
  · rw [if_pos rfl, lo_aI (by decide) (by decide)]
    simp only [Int.reduceToNat, rg_bs, rg_kIs]
    rw [o2, show rf_w (3 - 0) = 3 from rfl, W (w * 3) (by omega) (by omega), W (w * 3 - s 29) (by omega) (by omega), fin _ (by omega) (by omega)]
  · rw [if_neg (by decide), if_pos rfl, lo_aI (by decide) (by decide)]
    simp only [Int.reduceToNat, rg_bs, rg_kIs]
    rw [o2, show rf_w (3 - 1) = 2 from rfl, W (w * 2) (by omega) (by omega), W (w * 2 - s 29) (by omega) (by omega), fin _ (by omega) (by omega)]
  · rw [if_neg (by decide), if_neg (by decide), lo_aI (by decide) (by decide)]
    simp only [Int.reduceToNat, rg_bs, rg_kIs]
    rw [o2, show rf_w (3 - 2) = 1 from rfl, W (w * 1) (by omega) (by omega), W (w * 1 - s 29) (by omega) (by omega), fin _ (by omega) (by omega)]
theorem lq_can (hO : lc_ON o s) {t : Int} (d : Nat) : rf_call (d + 1) 128 [.inr (.inr (some 78)), .inl t] (lo P X D o) = some (some (.inl (if sp_can s t = true then 1 else 0)), lo P X D o) := by
  have o0 := hO 0 (by decide)
  have o1 := hO 1 (by decide)
  have o5 := hO 5 (by decide)
  rw [show 27 + 0 = 27 from rfl] at o0
  rw [show 27 + 1 = 28 from rfl] at o1
  rw [show 27 + 5 = 32 from rfl] at o5
  rw [rf_e_L_can]
  unfold sp_can
  by_cases a : 9 < t
  · rw [if_pos a, if_neg (show ¬ t < 10 by omega)]
    by_cases b : t = 10
    · rw [if_pos b, if_pos b, lo_aI (by decide) (by decide)]
      simp only [Int.reduceToNat, rg_bs, rg_kIs]
      rw [o1]
      by_cases c : 0 < s 28
      · rw [if_pos c, if_pos (decide_eq_true c)]
      · rw [if_neg c, if_neg (by rw [decide_eq_true_eq]; exact c)]
    · rw [if_neg b, if_neg b]
      by_cases c : 13 < t
      · rw [if_pos c, if_neg (show ¬ t < 14 by omega), lo_aI (by decide) (by decide)]
        simp only [Int.reduceToNat, rg_bs, rg_kIs]
        rw [o5]
        by_cases e : s 32 = 1
        · rw [if_pos e, if_pos (decide_eq_true e), rf_e_L_can_54]
        · rw [if_neg e, if_neg (by rw [decide_eq_true_eq]; exact e)]
      · rw [if_neg c, if_pos (show t < 14 by omega), if_pos rfl, rf_e_L_can_54]
  · rw [if_neg a, if_pos (show t < 10 by omega), lo_aI (by decide) (by decide)]
    simp only [Int.reduceToNat, rg_bs, rg_kIs]
    rw [o0]
    by_cases c : s 27 < t
    · rw [if_pos c, if_neg (by rw [decide_eq_true_eq]; omega)]
    · rw [if_neg c, if_pos (decide_eq_true (by omega))]
theorem lq_now (hA : lc_AX X s) (hO : lc_ON o s) (h34 : 0 ≤ s 34) (d : Nat) : rf_call (d + 4) 131 [.inr (.inr (some 1000000)), .inr (.inr (some 78))] (lo P X D o) = some (some (.inl (sp_rail s)), lo P X D o) := by
  have hX : (lo P X D o).2.2.2 = X := rfl
  have o7 := hO 7 (by decide)
  rw [show 27 + 7 = 34 from rfl] at o7
  have b := lc_rs_b X
  have c := pq_tm h34 b.1
  rw [rf_e_L_now, lo_aI (by decide) (by decide)]
  simp only [Int.reduceToNat, rg_bs, rg_kIs]
  rw [o7, lq_rail hX d]
  simp only [Int.reduceToNat, rg_bs, rg_kIs]
  unfold sp_rail
  rw [hA.2.2.1]
  have e := hA.2.2.2.1 (Int.tmod (s 34) (lc_rs X)).toNat (by omega)
  rw [show (((Int.tmod (s 34) (lc_rs X)).toNat : Nat) : Int) = Int.tmod (s 34) (lc_rs X) by omega, lc_ra_m X h34] at e
  rw [show (3 + Int.tmod (s 34) (lc_rs X)).toNat = 3 + (Int.tmod (s 34) (lc_rs X)).toNat by omega, e]
/-- steam given: the law's row and the train's -/
theorem lq_gives (hA : lc_AX X s) (hO : lc_ON o s) (hs : sp_st m s) (hm : m ≤ 1000) (hW : s 36 ≤ lc_ws X) {st r : Int} (s0 : 0 ≤ st) (s9 : st ≤ 9) (r0 : 0 ≤ r) (r2 : r ≤ 2) (d : Nat) : ∃ o', rf_call (d + 5) 129 [.inr (.inr (some 1000000)), .inr (.inr (some 78)), .inl st, .inl r] (lo P X D o) = some (some (.inl (sp_gives s st r).1), lo P X D o') ∧ lc_ON o' (sp_gives s st r).2 := by
  obtain ⟨b27, b28, b29, b30, b31, b32, b33, b34, b35⟩ := hs
  have w5 := lc_ws_b X
  have W : ∀ z : Int, -10000 ≤ z → z ≤ 10000 → rf_w z = z := fun z h1 h2 => rg_w (by omega) (by omega)
  have x2 : rf_w (2 * st) = st + st := by rw [W (2 * st) (by omega) (by omega)]; omega
  have xp : rf_w (st + st) = st + st := W _ (by omega) (by omega)
  have o0 := hO 0 (by decide)
  have o2 := hO 2 (by decide)
  rw [show 27 + 0 = 27 from rfl] at o0
  rw [show 27 + 2 = 29 from rfl] at o2
  have g := lq_grip (P := P) (D := D) hA hO ⟨b27, b28, b29, b30, b31, b32, b33, b34, b35⟩ r0 r2 (d + 1)
  rw [rf_e_L_gives, g]
  simp only [Int.reduceToNat, rg_bs, rg_kIs]
  rw [xp]
  unfold sp_gives
  rw [x2]
  by_cases a : sp_grip s r < st + st
  · rw [if_pos a, if_pos a, rf_e_L_gives_23, lo_sI (by decide) (by decide)]
    simp only [Int.reduceToNat, rg_bs, rg_kIs]
    rw [if_neg (by decide), lo_aI (by decide) (by decide)]
    simp only [Int.reduceToNat, rg_bs, rg_kIs]
    rw [rg_ui_n (show (2 : Nat) ≠ 3 by decide), o2]
    have h1 := hO.ui 3 0
    have step : ∀ v : Int, v = (if 9 < rf_w (s 29 + 1) then 9 else rf_w (s 29 + 1)) → ∃ o', ((rf_sI (lo P X D (rg_ui o 3 0)) 78 2 v).bind fun h9 => rf_j_L_gives_51 (d + 4) 78 h9) = some (some (.inl 1), lo P X D o') ∧ lc_ON o' (rg_ui (rg_ui (rg_ui s 30 0) 29 (if 9 < rf_w (s 29 + 1) then 9 else rf_w (s 29 + 1))) 27 (if rf_w (s 27 - 2) < 0 then 0 else rf_w (s 27 - 2))) := fun v hv => by
      have h2 := h1.ui 2 v
      rw [lo_sI (by decide) (by decide)]
      simp only [Int.reduceToNat, rg_bs, rg_kIs]
      rw [rf_e_L_gives_51, lo_aI (by decide) (by decide)]
      simp only [Int.reduceToNat, rg_bs, rg_kIs]
      have e0 : rg_ui (rg_ui o 3 0) 2 v 0 = s 27 := by rw [rg_ui_n (by decide), rg_ui_n (by decide), o0]
      rw [e0, ← hv, W (s 27 - 2) (by omega) (by omega)]
      by_cases c : s 27 < 2
      · rw [if_pos c, lo_sI (by decide) (by decide)]
        simp only [Int.reduceToNat, rg_bs, rg_kIs]
        rw [rf_e_L_gives_70, if_pos (by omega)]
        exact ⟨_, rfl, h2.ui 0 0⟩
      · rw [if_neg c, lo_sI (by decide) (by decide)]
        simp only [Int.reduceToNat, rg_bs, rg_kIs]
        rw [rf_e_L_gives_70, if_neg (by omega)]
        exact ⟨_, rfl, h2.ui 0 (s 27 - 2)⟩
    by_cases c : s 29 < 9
    · rw [if_pos c]
      exact step _ (by rw [W (s 29 + 1) (by omega) (by omega), if_neg (by omega)])
    · rw [if_neg c]
      exact step _ (by rw [W (s 29 + 1) (by omega) (by omega), W (s 29 + 0) (by omega) (by omega), if_pos (by omega)]; omega)
  · rw [if_neg a, if_neg a, rf_e_L_gives_23, lo_sI (by decide) (by decide)]
    simp only [Int.reduceToNat, rg_bs, rg_kIs]
    rw [if_pos (by decide), lo_aI (by decide) (by decide)]
    simp only [Int.reduceToNat, rg_bs, rg_kIs]
    rw [rg_ui_n (show (0 : Nat) ≠ 3 by decide), o0]
    obtain ⟨u, hu⟩ : ∃ u, u = sp_less s st := ⟨_, rfl⟩
    obtain ⟨o1, ho1⟩ : ∃ o1, o1 = rg_ui (rg_ui o 3 0) 0 (rf_w (s 27 - (if 0 < st then (if 0 < s 27 then 1 else 0) else 0))) := ⟨_, rfl⟩
    have hO1 : lc_ON o1 u := by
      rw [ho1, hu]
      exact (hO.ui 3 0).ui 0 _
    have e1 : (if 0 < st then (if 0 < s 27 then ((rf_sI (lo P X D (rg_ui o 3 0)) 78 0 (rf_w (s 27 - 1))).bind fun h6 => rf_j_L_gives_93 (d + 4) 1000000 78 (st + st) h6) else ((rf_sI (lo P X D (rg_ui o 3 0)) 78 0 (rf_w (s 27 - 0))).bind fun h5 => rf_j_L_gives_93 (d + 4) 1000000 78 (st + st) h5)) else ((rf_sI (lo P X D (rg_ui o 3 0)) 78 0 (rf_w (s 27 - 0))).bind fun h3 => rf_j_L_gives_93 (d + 4) 1000000 78 (st + st) h3)) = rf_j_L_gives_93 (d + 4) 1000000 78 (st + st) (lo P X D o1) := by
      rw [ho1]
      by_cases c : 0 < st
      · rw [if_pos c, if_pos c]
        by_cases c2 : 0 < s 27
        · rw [if_pos c2, if_pos c2, lo_sI (by decide) (by decide)]
          simp only [Int.reduceToNat, rg_bs, rg_kIs]
        · rw [if_neg c2, if_neg c2, lo_sI (by decide) (by decide)]
          simp only [Int.reduceToNat, rg_bs, rg_kIs]
      · rw [if_neg c, if_neg c, lo_sI (by decide) (by decide)]
        simp only [Int.reduceToNat, rg_bs, rg_kIs]
    rw [e1]
    have hA1 : lc_AX X u := hA.of fun j hj => by rw [hu, sp_less_w _ _ _ hj]
    have u31 : u 31 = s 31 := by rw [hu]; rfl
    have u33 : u 33 = s 33 := by rw [hu]; rfl
    have u35 : u 35 = s 35 := by rw [hu]; rfl
    have u36 : u 36 = s 36 := by rw [hu]; rfl
    have uL : ∀ n, n ≤ 6 → sp_load u n = sp_load s n := fun n hn => by rw [hu, sp_less_load s st hn]
    have p4 : o1 4 = s 31 := by rw [hO1 4 (by decide)]; exact u31
    have p6 : o1 6 = s 33 := by rw [hO1 6 (by decide)]; exact u33
    have p8 : o1 8 = s 35 := by rw [hO1 8 (by decide)]; exact u35
    have p9 : o1 9 = s 36 := by rw [hO1 9 (by decide)]; exact u36
    have y33 : rf_w (s 33 + 1) = s 33 + 1 := W _ (by omega) (by omega)
    /- behind: back, or nothing -/
    have k252 : ∀ l6 : Int, l6 = s 33 → ∃ o', rf_j_L_gives_252 (d + 4) 1000000 78 (st + st) l6 (lo P X D o1) = some (some (.inl (if sp_rolls s st = true then 5 else 0)), lo P X D o') ∧ lc_ON o' (if sp_rolls s st = true then rg_ui u 33 0 else u) := fun l6 hl => by
      have ld := lq_load (P := P) (D := D) hA1 hO1 (n := s 33) b33.1 (by omega) d
      rw [uL _ (by omega)] at ld
      rw [rf_e_L_gives_252, hl, ld]
      simp only [Int.reduceToNat, rg_bs, rg_kIs]
      unfold sp_rolls
      rw [x2]
      have n0 : ∃ o', rf_j_L_gives_277 (d + 4) 78 0 (lo P X D o1) = some (some (.inl 0), lo P X D o') ∧ lc_ON o' u := by
        rw [rf_e_L_gives_277, if_pos rfl, lo_aI (by decide) (by decide)]
        simp only [Int.reduceToNat, rg_bs, rg_kIs]
        rw [lo_sI (by decide) (by decide)]
        simp only [Int.reduceToNat, rg_bs, rg_kIs]
        rw [rf_e_L_gives_294, if_pos rfl]
        exact ⟨_, rfl, hO1.same rfl⟩
      by_cases c : st + st < sp_load s (s 33).toNat
      · rw [if_pos c, lo_aI (by decide) (by decide)]
        simp only [Int.reduceToNat, rg_bs, rg_kIs]
        rw [p4]
        by_cases c2 : s 31 = 0
        · rw [if_pos c2, if_pos (decide_eq_true ⟨c, c2⟩), if_pos (decide_eq_true ⟨c, c2⟩), rf_e_L_gives_277, if_neg (by decide), lo_sI (by decide) (by decide)]
          simp only [Int.reduceToNat, rg_bs, rg_kIs]
          rw [rf_e_L_gives_294, if_neg (by decide)]
          exact ⟨_, rfl, hO1.ui 6 0⟩
        · rw [if_neg c2, if_neg (by rw [decide_eq_true_eq]; exact fun z => c2 z.2), if_neg (by rw [decide_eq_true_eq]; exact fun z => c2 z.2)]
          exact n0
      · rw [if_neg c, if_neg (by rw [decide_eq_true_eq]; exact fun z => c z.1), if_neg (by rw [decide_eq_true_eq]; exact fun z => c z.1)]
        exact n0
    rw [← hu]
    rw [rf_e_L_gives_93, lo_aI (by decide) (by decide)]
    simp only [Int.reduceToNat, rg_bs, rg_kIs]
    rw [p6, lo_aI (by decide) (by decide)]
    simp only [Int.reduceToNat, rg_bs, rg_kIs]
    rw [p9]
    by_cases c : s 33 < s 36
    · obtain ⟨n, hn⟩ := Int.eq_ofNat_of_zero_le b33.1
      have ld := lq_load (P := P) (D := D) hA1 hO1 (n := s 33 + 1) (by omega) (by omega) d
      rw [uL _ (by omega)] at ld
      have ng : ¬ sp_goes s st = true := by
        unfold sp_goes
        rw [decide_eq_true_eq]
        exact fun z => by omega
      have k197 : ∃ o', rf_j_L_gives_197 (d + 4) 1000000 78 (st + st) (s 33) 0 (lo P X D o1) = some (some (.inl (if sp_rolls s st = true then 5 else 0)), lo P X D o') ∧ lc_ON o' (if sp_rolls s st = true then rg_ui u 33 0 else u) := by
        rw [rf_e_L_gives_197, lo_aI (by decide) (by decide)]
        simp only [Int.reduceToNat, rg_bs, rg_kIs]
        rw [if_pos (by decide), lo_sI (by decide) (by decide)]
        simp only [Int.reduceToNat, rg_bs, rg_kIs]
        rw [rf_e_L_gives_214, if_pos rfl]
        have e : rg_ui o1 6 (rf_w (o1 6 + 0)) = o1 := by
          rw [p6, W (s 33 + 0) (by omega) (by omega), show s 33 + 0 = o1 6 by omega, rg_ui_i]
        rw [e]
        exact k252 _ rfl
      have no : ∀ v : Int × (Nat → Int), ¬ sp_takes s st = true → (if sp_takes s st = true then v else if sp_goes s st = true then (4, rg_ui u 35 (rf_w (s 35 + 1))) else if sp_rolls s st = true then (5, rg_ui u 33 0) else (0, u)) = (if sp_rolls s st = true then (5, rg_ui u 33 0) else (0, u)) := fun v h => by rw [if_neg h, if_neg ng]
      have fin : ¬ sp_takes s st = true → ∃ o', rf_j_L_gives_150 (d + 4) 1000000 78 (st + st) (s 33) (sp_load s (s 33 + 1).toNat) 0 (lo P X D o1) = some (some (.inl (if sp_takes s st = true then (if sp_tears s st = true then ((3 : Int), rg_ui (rg_ui (rg_ui u 36 (s 33)) 31 0) 32 0) else (2, rg_ui u 33 (s 33 + 1))) else if sp_goes s st = true then (4, rg_ui u 35 (rf_w (s 35 + 1))) else if sp_rolls s st = true then (5, rg_ui u 33 0) else (0, u)).1), lo P X D o') ∧ lc_ON o' (if sp_takes s st = true then (if sp_tears s st = true then ((3 : Int), rg_ui (rg_ui (rg_ui u 36 (s 33)) 31 0) 32 0) else (2, rg_ui u 33 (s 33 + 1))) else if sp_goes s st = true then (4, rg_ui u 35 (rf_w (s 35 + 1))) else if sp_rolls s st = true then (5, rg_ui u 33 0) else (0, u)).2 := fun h => by
        rw [no _ h, rf_e_L_gives_150, if_pos rfl]
        obtain ⟨o', h1, h2⟩ := k197
        refine ⟨o', h1.trans ?_, ?_⟩
        · split <;> rfl
        · revert h2
          split <;> exact id
      have yes : sp_takes s st = true → ∃ o', rf_j_L_gives_143 (d + 4) 1000000 78 (st + st) (s 33) (sp_load s (s 33 + 1).toNat) (lo P X D o1) = some (some (.inl (if sp_takes s st = true then (if sp_tears s st = true then ((3 : Int), rg_ui (rg_ui (rg_ui u 36 (s 33)) 31 0) 32 0) else (2, rg_ui u 33 (s 33 + 1))) else if sp_goes s st = true then (4, rg_ui u 35 (rf_w (s 35 + 1))) else if sp_rolls s st = true then (5, rg_ui u 33 0) else (0, u)).1), lo P X D o') ∧ lc_ON o' (if sp_takes s st = true then (if sp_tears s st = true then ((3 : Int), rg_ui (rg_ui (rg_ui u 36 (s 33)) 31 0) 32 0) else (2, rg_ui u 33 (s 33 + 1))) else if sp_goes s st = true then (4, rg_ui u 35 (rf_w (s 35 + 1))) else if sp_rolls s st = true then (5, rg_ui u 33 0) else (0, u)).2 := fun h => by
        have sl := lq_slack (P := P) (D := D) (o := o1) hA (n := n) (by omega) (d + 1)
        have ho := lq_holds (P := P) (D := D) (o := o1) hA (n := n) (by omega) (d + 1)
        rw [← hn] at sl ho
        rw [if_pos h, rf_e_L_gives_143, rf_e_L_gives_150, if_neg (by decide), sl]
        simp only [Int.reduceToNat, rg_bs, rg_kIs]
        rw [ho]
        simp only [Int.reduceToNat, rg_bs, rg_kIs]
        unfold sp_tears
        rw [x2]
        by_cases q : sp_holds s (s 33) < rf_w (rf_w (st + st - sp_load s (s 33 + 1).toNat) + sp_slack s (s 33))
        · rw [if_pos q, if_pos (decide_eq_true q), lo_sI (by decide) (by decide)]
          simp only [Int.reduceToNat, rg_bs, rg_kIs]
          rw [lo_sI (by decide) (by decide)]
          simp only [Int.reduceToNat, rg_bs, rg_kIs]
          rw [lo_sI (by decide) (by decide)]
          simp only [Int.reduceToNat, rg_bs, rg_kIs]
          rw [lo_sI (by decide) (by decide)]
          simp only [Int.reduceToNat, rg_bs, rg_kIs]
          exact ⟨_, rfl, (((hO1.ui 9 (s 33)).ui 4 0).ui 5 0).hi 1⟩
        · rw [if_neg q, if_neg (by rw [decide_eq_true_eq]; exact q), rf_e_L_gives_197, lo_aI (by decide) (by decide)]
          simp only [Int.reduceToNat, rg_bs, rg_kIs]
          rw [if_neg (by decide), lo_sI (by decide) (by decide)]
          simp only [Int.reduceToNat, rg_bs, rg_kIs]
          rw [rf_e_L_gives_214, if_neg (by decide), p6, y33]
          exact ⟨_, rfl, hO1.ui 6 (s 33 + 1)⟩
      rw [if_pos c, y33, ld]
      simp only [Int.reduceToNat, rg_bs, rg_kIs]
      have tk : sp_takes s st = true ↔ (s 33 ≠ s 36 ∧ sp_load s (s 33 + 1).toNat ≤ st + st ∧ (s 33 + 1 < s 36 ∨ s 31 = 0)) := by
        unfold sp_takes
        rw [decide_eq_true_eq, x2]
      by_cases c2 : st + st < sp_load s (s 33 + 1).toNat
      · rw [if_pos c2]
        exact fin fun z => by have := (tk.1 z).2.1; omega
      · rw [if_neg c2, lo_aI (by decide) (by decide)]
        simp only [Int.reduceToNat, rg_bs, rg_kIs]
        rw [p9]
        by_cases c3 : s 33 + 1 < s 36
        · rw [if_pos c3]
          exact yes (tk.2 ⟨by omega, by omega, Or.inl c3⟩)
        · rw [if_neg c3, lo_aI (by decide) (by decide)]
          simp only [Int.reduceToNat, rg_bs, rg_kIs]
          rw [p4]
          by_cases c4 : s 31 = 0
          · rw [if_pos c4]
            exact yes (tk.2 ⟨by omega, by omega, Or.inr c4⟩)
          · rw [if_neg c4]
            exact fin fun z => by
              rcases (tk.1 z).2.2 with h | h
              · exact c3 h
              · exact c4 h
    · have nt : ¬ sp_takes s st = true := by
        unfold sp_takes
        rw [decide_eq_true_eq]
        exact fun z => z.1 (by omega)
      have ld := lq_load (P := P) (D := D) hA1 hO1 (n := s 33) b33.1 (by omega) d
      rw [uL _ (by omega)] at ld
      rw [if_neg c, if_neg nt, ld]
      simp only [Int.reduceToNat, rg_bs, rg_kIs]
      have gs : sp_goes s st = true ↔ (s 33 = s 36 ∧ sp_load s (s 33).toNat ≤ st + st ∧ s 31 = 0) := by
        unfold sp_goes
        rw [decide_eq_true_eq, x2]
      have fin : ¬ sp_goes s st = true → ∃ o', rf_j_L_gives_252 (d + 4) 1000000 78 (st + st) (s 33) (lo P X D o1) = some (some (.inl (if sp_goes s st = true then ((4 : Int), rg_ui u 35 (rf_w (s 35 + 1))) else if sp_rolls s st = true then (5, rg_ui u 33 0) else (0, u)).1), lo P X D o') ∧ lc_ON o' (if sp_goes s st = true then ((4 : Int), rg_ui u 35 (rf_w (s 35 + 1))) else if sp_rolls s st = true then (5, rg_ui u 33 0) else (0, u)).2 := fun h => by
        rw [if_neg h]
        obtain ⟨o', h1, h2⟩ := k252 _ rfl
        refine ⟨o', h1.trans ?_, ?_⟩
        · split <;> rfl
        · revert h2
          split <;> exact id
      by_cases c2 : st + st < sp_load s (s 33).toNat
      · rw [if_pos c2]
        exact fin fun z => by have := (gs.1 z).2.1; omega
      · rw [if_neg c2, lo_aI (by decide) (by decide)]
        simp only [Int.reduceToNat, rg_bs, rg_kIs]
        rw [p4]
        by_cases c3 : s 31 = 0
        · have g1 := gs.2 ⟨by omega, by omega, c3⟩
          rw [if_pos c3, lo_aI (by decide) (by decide)]
          simp only [Int.reduceToNat, rg_bs, rg_kIs]
          rw [p8, lo_sI (by decide) (by decide)]
          simp only [Int.reduceToNat, rg_bs, rg_kIs]
          rw [if_pos g1]
          exact ⟨_, rfl, hO1.ui 8 _⟩
        · rw [if_neg c3]
          exact fin fun z => c3 (gs.1 z).2.2
end PQF
