/-! The text that the law tells, and what is read of it. -/
def tx_rc (r : Int) : Int := if r = 0 then 100 else if r = 1 then 119 else 108
def tx_kc (k : Int) : Int := if k = 0 then 119 else if k = 1 then 104 else if k = 2 then 115 else if k = 3 then 112 else if k = 4 then 114 else 98
def tx_w (X : rf_X) (i r : Nat) : Int := if r = 0 then tx_kc (lc_wa X (i : Int) 0) else if r = 1 then 48 + lc_wa X (i : Int) 1 else 48 + lc_wa X (i : Int) 2
def tx_x (X : rf_X) (R j : Nat) : Int := if j = 0 then 101 else if j < 5 then 48 + lc_fi X ((j : Int) - 1) else if j = 5 then 105 else if j < 6 + R then tx_rc (lc_ra X ((j : Int) - 6)) else if j = 6 + R then 32 else tx_w X ((j - (7 + R)) / 3) ((j - (7 + R)) % 3)
theorem tx_0 (X : rf_X) (R : Nat) : tx_x X R 0 = 101 := rfl
theorem tx_f (X : rf_X) (R : Nat) {k : Nat} (h : k < 4) : tx_x X R (1 + k) = 48 + lc_fi X (k : Int) := by
  unfold tx_x
  rw [if_neg (by omega), if_pos (by omega), show ((1 + k : Nat) : Int) - 1 = (k : Int) by omega]
theorem tx_5 (X : rf_X) (R : Nat) : tx_x X R 5 = 105 := rfl
theorem tx_r (X : rf_X) {R k : Nat} (h : k < R) : tx_x X R (6 + k) = tx_rc (lc_ra X (k : Int)) := by
  unfold tx_x
  rw [if_neg (by omega), if_neg (by omega), if_neg (by omega), if_pos (by omega), show ((6 + k : Nat) : Int) - 6 = (k : Int) by omega]
theorem tx_b (X : rf_X) (R : Nat) : tx_x X R (6 + R) = 32 := by
  unfold tx_x
  rw [if_neg (by omega), if_neg (by omega), if_neg (by omega), if_neg (by omega), if_pos rfl]
theorem tx_g (X : rf_X) (R i : Nat) {r : Nat} (h : r < 3) : tx_x X R (7 + R + 3 * i + r) = tx_w X i r := by
  unfold tx_x
  rw [if_neg (by omega), if_neg (by omega), if_neg (by omega), if_neg (by omega), if_neg (by omega), show (7 + R + 3 * i + r - (7 + R)) / 3 = i by omega, show (7 + R + 3 * i + r - (7 + R)) % 3 = r by omega]
theorem tx_rc_b {r : Int} (h : 0 ≤ r ∧ r ≤ 2) : ps_rail (tx_rc r) = r := by
  have e : r = 0 ∨ r = 1 ∨ r = 2 := by omega
  rcases e with rfl | rfl | rfl <;> rfl
theorem tx_rc_32 (r : Int) : (32 < tx_rc r ∧ tx_rc r ≤ 119) := by
  unfold tx_rc
  split
  · decide
  · split <;> decide
theorem tx_kc_b {k : Int} (h : 0 ≤ k ∧ k ≤ 5) : ps_kind (tx_kc k) = k := by
  have e : k = 0 ∨ k = 1 ∨ k = 2 ∨ k = 3 ∨ k = 4 ∨ k = 5 := by omega
  rcases e with rfl | rfl | rfl | rfl | rfl | rfl <;> rfl
theorem tx_kc_32 (k : Int) : 32 < tx_kc k ∧ tx_kc k ≤ 119 := by
  unfold tx_kc
  split
  · decide
  · split
    · decide
    · split
      · decide
      · split
        · decide
        · split <;> decide
/-- a figure is read -/
theorem tx_pf {x : Nat → Int} {n to p : Nat} {lo hi v : Int} {q : Nat → Int} (hp : p < n) (hx : x p = 48 + v) (h : lo ≤ v ∧ v ≤ hi) : ps_f x n to lo hi (p, q) = (true, p + 1, rg_ui q to v) := by
  have c : ps_c x n p = 48 + v := by
    unfold ps_c
    rw [if_pos hp, hx]
  unfold ps_f
  show (if lo ≤ ps_c x n p - 48 ∧ ps_c x n p - 48 ≤ hi then (true, p + 1, rg_ui q to (ps_c x n p - 48)) else (false, p, q)) = _
  rw [c, show 48 + v - 48 = v by omega, if_pos h]
theorem tx_sk {x : Nat → Int} {n p : Nat} (k : Nat) (h : ¬ ps_c x n p = 32) : ps_sk x n k p = p := by
  cases k with
  | zero => rfl
  | succ k =>
    show (if ps_c x n p = 32 then ps_sk x n k (p + 1) else p) = p
    rw [if_neg h]
/-- what is read, up to so many wagons -/
def tx_Q (X : rf_X) (i : Nat) (q : Nat → Int) : Prop := q 0 = lc_fi X 0 ∧ q 1 = lc_fi X 3 ∧ q 2 = lc_rs X ∧ (∀ j : Nat, (j : Int) < lc_rs X → q (3 + j) = lc_ra X (j : Int)) ∧ (q 27 = lc_fi X 1 ∧ q 28 = lc_fi X 2 ∧ q 36 = (i : Int)) ∧ ∀ j : Nat, j < i → q (9 + 3 * j) = lc_wa X (j : Int) 0 ∧ q (10 + 3 * j) = lc_wa X (j : Int) 1 ∧ q (11 + 3 * j) = lc_wa X (j : Int) 2
theorem tx_lp {X : rf_X} {x : Nat → Int} {R M : Nat} (hR : lc_rs X = (R : Int)) (hM : lc_ws X = (M : Int)) (hx : ∀ j, j < 7 + R + 3 * M → x j = tx_x X R j) : ∀ (k i p : Nat) (q : Nat → Int), M < i + k → i ≤ M → ps_sk x (7 + R + 3 * M) 60 p = 7 + R + 3 * i → tx_Q X i q → ∃ G, ps_lp x (7 + R + 3 * M) k (p, q) = (true, 7 + R + 3 * M, G) ∧ tx_Q X M G
  | 0, i, p, q, h1, h2, _, _ => by omega
  | k + 1, i, p, q, h1, h2, hp, hq => by
    have m5 := lc_ws_b X
    have r6 := lc_rs_b X
    have e : ps_lp x (7 + R + 3 * M) (k + 1) (p, q) = (if ps_sk x (7 + R + 3 * M) 60 p = 7 + R + 3 * M then (true, 7 + R + 3 * M, q) else if (ps_wag x (7 + R + 3 * M) (ps_sk x (7 + R + 3 * M) 60 p, q)).1 = true then ps_lp x (7 + R + 3 * M) k (ps_wag x (7 + R + 3 * M) (ps_sk x (7 + R + 3 * M) 60 p, q)).2 else ps_wag x (7 + R + 3 * M) (ps_sk x (7 + R + 3 * M) 60 p, q)) := rfl
    rw [e, hp]
    by_cases c : i = M
    · rw [if_pos (by omega)]
      rw [c] at hq
      exact ⟨q, rfl, hq⟩
    · have iM : i < M := by omega
      have c0 : ps_c x (7 + R + 3 * M) (7 + R + 3 * i) = tx_kc (lc_wa X (i : Int) 0) := by
        unfold ps_c
        rw [if_pos (by omega), hx _ (by omega)]
        exact tx_g X R i (r := 0) (by decide)
      have x1 : x (7 + R + 3 * i + 1) = 48 + lc_wa X (i : Int) 1 := by
        rw [hx _ (by omega), tx_g X R i (r := 1) (by decide)]
        rfl
      have x2 : x (7 + R + 3 * i + 1 + 1) = 48 + lc_wa X (i : Int) 2 := by
        rw [show 7 + R + 3 * i + 1 + 1 = 7 + R + 3 * i + 2 by omega, hx _ (by omega), tx_g X R i (r := 2) (by decide)]
        rfl
      obtain ⟨q0, q1, q2, q3, ⟨q27, q28, q36⟩, qw⟩ := hq
      have b0 := lc_wa_0 X (i : Int)
      have kd := tx_kc_b b0
      obtain ⟨g3, hg3⟩ : ∃ g3, g3 = rg_ui (rg_ui (rg_ui (rg_ui q (9 + 3 * i) (lc_wa X (i : Int) 0)) (10 + 3 * i) (lc_wa X (i : Int) 1)) (11 + 3 * i) (lc_wa X (i : Int) 2)) 36 ((i : Int) + 1) := ⟨_, rfl⟩
      have wg : ps_wag x (7 + R + 3 * M) (7 + R + 3 * i, q) = (true, 7 + R + 3 * i + 1 + 1 + 1, g3) := by
        unfold ps_wag
        show (if ps_kind (ps_c x (7 + R + 3 * M) (7 + R + 3 * i)) = -9 ∨ q 36 = 6 then _ else ps_w1 x (7 + R + 3 * M) (q 36) (7 + R + 3 * i + 1, rg_ui q (9 + 3 * q 36).toNat (ps_kind (ps_c x (7 + R + 3 * M) (7 + R + 3 * i))))) = _
        rw [c0, kd, q36, if_neg (by omega)]
        unfold ps_w1
        rw [tx_pf (by omega) x1 (lc_wa_1 X (i : Int)), if_pos rfl]
        unfold ps_w2
        rw [tx_pf (by omega) x2 (lc_wa_2 X (i : Int) (w := 2) (by decide) (by decide)), if_pos rfl, hg3, show (9 + 3 * (i : Int)).toNat = 9 + 3 * i by omega, show (9 + 3 * (i : Int) + 1).toNat = 10 + 3 * i by omega, show (9 + 3 * (i : Int) + 2).toNat = 11 + 3 * i by omega]
      rw [if_neg (by omega), wg, if_pos rfl]
      have gn : ∀ j, j ≠ 9 + 3 * i → j ≠ 10 + 3 * i → j ≠ 11 + 3 * i → j ≠ 36 → g3 j = q j := fun j y1 y2 y3 y4 => by rw [hg3, rg_ui_n y4, rg_ui_n y3, rg_ui_n y2, rg_ui_n y1]
      refine tx_lp hR hM hx k (i + 1) _ g3 (by omega) (by omega) ?_ ⟨?_, ?_, ?_, fun j hj => ?_, ⟨?_, ?_, ?_⟩, fun j hj => ?_⟩
      · rw [show 7 + R + 3 * i + 1 + 1 + 1 = 7 + R + 3 * (i + 1) by omega]
        refine tx_sk 60 fun z => ?_
        unfold ps_c at z
        by_cases y : 7 + R + 3 * (i + 1) < 7 + R + 3 * M
        · rw [if_pos y, hx _ y] at z
          have t := tx_g X R (i + 1) (r := 0) (by decide)
          rw [Nat.add_zero] at t
          rw [t] at z
          have u := tx_kc_32 (lc_wa X ((i + 1 : Nat) : Int) 0)
          have z : tx_kc (lc_wa X ((i + 1 : Nat) : Int) 0) = 32 := z
          rw [z] at u
          exact absurd u.1 (by decide)
        · rw [if_neg y] at z
          exact absurd z (by decide)
      · rw [gn 0 (by omega) (by omega) (by omega) (by omega)]
        exact q0
      · rw [gn 1 (by omega) (by omega) (by omega) (by omega)]
        exact q1
      · rw [gn 2 (by omega) (by omega) (by omega) (by omega)]
        exact q2
      · rw [gn (3 + j) (by omega) (by omega) (by omega) (by omega)]
        exact q3 j hj
      · rw [gn 27 (by omega) (by omega) (by omega) (by omega)]
        exact q27
      · rw [gn 28 (by omega) (by omega) (by omega) (by omega)]
        exact q28
      · rw [hg3, rg_ui_s]
        omega
      · by_cases y : j = i
        · rw [y, hg3, rg_ui_n (show 9 + 3 * i ≠ 36 by omega), rg_ui_n (show 9 + 3 * i ≠ 11 + 3 * i by omega), rg_ui_n (show 9 + 3 * i ≠ 10 + 3 * i by omega), rg_ui_s, rg_ui_n (show 10 + 3 * i ≠ 36 by omega), rg_ui_n (show 10 + 3 * i ≠ 11 + 3 * i by omega), rg_ui_s, rg_ui_n (show 11 + 3 * i ≠ 36 by omega), rg_ui_s]
          exact ⟨rfl, rfl, rfl⟩
        · rw [gn (9 + 3 * j) (by omega) (by omega) (by omega) (by omega), gn (10 + 3 * j) (by omega) (by omega) (by omega) (by omega), gn (11 + 3 * j) (by omega) (by omega) (by omega) (by omega)]
          exact qw j (by omega)
theorem tx_rl {X : rf_X} {x : Nat → Int} {R M : Nat} (hR : lc_rs X = (R : Int)) (hx : ∀ j, j < 7 + R + 3 * M → x j = tx_x X R j) : ∀ (k i : Nat) (q : Nat → Int), i + k = 6 → i ≤ R → q 2 = (i : Int) → (∀ j, j < i → q (3 + j) = lc_ra X (j : Int)) → ∃ G, ps_rl x (7 + R + 3 * M) k (6 + i, q) = (6 + R, G) ∧ G 2 = (R : Int) ∧ (∀ j, j < R → G (3 + j) = lc_ra X (j : Int)) ∧ ∀ j, j ≠ 2 → (j < 3 ∨ 8 < j) → G j = q j
  | 0, i, q, h1, h2, h3, h4 => by
    have r6 := lc_rs_b X
    have e : i = R := by omega
    rw [e] at h3 h4 ⊢
    exact ⟨q, rfl, h3, h4, fun _ _ _ => rfl⟩
  | k + 1, i, q, h1, h2, h3, h4 => by
    have r6 := lc_rs_b X
    have e : ps_rl x (7 + R + 3 * M) (k + 1) (6 + i, q) = (if ps_rail (ps_c x (7 + R + 3 * M) (6 + i)) ≠ -9 ∧ q 2 < 6 then ps_rl x (7 + R + 3 * M) k (6 + i + 1, rg_ui (rg_ui q (3 + q 2).toNat (ps_rail (ps_c x (7 + R + 3 * M) (6 + i)))) 2 (q 2 + 1)) else (6 + i, q)) := rfl
    rw [e]
    by_cases c : i = R
    · have c0 : ps_c x (7 + R + 3 * M) (6 + i) = 32 := by
        unfold ps_c
        rw [if_pos (by omega), hx _ (by omega), c]
        exact tx_b X R
      rw [c0, if_neg (fun z => z.1 rfl), c]
      rw [c] at h3 h4
      exact ⟨q, rfl, h3, h4, fun _ _ _ => rfl⟩
    · have c0 : ps_c x (7 + R + 3 * M) (6 + i) = tx_rc (lc_ra X (i : Int)) := by
        unfold ps_c
        rw [if_pos (by omega), hx _ (by omega)]
        exact tx_r X (by omega)
      have b := lc_ra_b X (i : Int)
      have y : ps_rail (tx_rc (lc_ra X (i : Int))) = lc_ra X (i : Int) := tx_rc_b b
      rw [c0, y, h3, if_pos ⟨by omega, by omega⟩, show (3 + (i : Int)).toNat = 3 + i by omega]
      obtain ⟨G, g1, g2, g3, g4⟩ := tx_rl hR hx k (i + 1) (rg_ui (rg_ui q (3 + i) (lc_ra X (i : Int))) 2 ((i : Int) + 1)) (by omega) (by omega) (by rw [rg_ui_s]; omega) (fun j hj => by
        rw [rg_ui_n (show 3 + j ≠ 2 by omega)]
        by_cases z : j = i
        · rw [z, rg_ui_s]
        · rw [rg_ui_n (show 3 + j ≠ 3 + i by omega)]
          exact h4 j (by omega))
      refine ⟨G, g1, g2, g3, fun j y1 y2 => ?_⟩
      rw [g4 j y1 y2, rg_ui_n y1, rg_ui_n (by omega)]
theorem tx_all {X : rf_X} {x : Nat → Int} {R M : Nat} (hR : lc_rs X = (R : Int)) (hM : lc_ws X = (M : Int)) (hx : ∀ j, j < 7 + R + 3 * M → x j = tx_x X R j) : ∃ G, ps_all x (7 + R + 3 * M) pq_g0 = (true, 7 + R + 3 * M, G) ∧ tx_Q X M G := by
  have r6 := lc_rs_b X
  have m5 := lc_ws_b X
  have xf : ∀ k : Nat, k < 4 → x (1 + k) = 48 + lc_fi X (k : Int) := fun k hk => by
    rw [hx _ (by omega)]
    exact tx_f X R hk
  have c0 : ps_c x (7 + R + 3 * M) 0 = 101 := by
    unfold ps_c
    rw [if_pos (by omega), hx _ (by omega)]
    rfl
  have c5 : ps_c x (7 + R + 3 * M) 5 = 105 := by
    unfold ps_c
    rw [if_pos (by omega), hx _ (by omega)]
    rfl
  have cb : ps_c x (7 + R + 3 * M) (6 + R) = 32 := by
    unfold ps_c
    rw [if_pos (by omega), hx _ (by omega)]
    exact tx_b X R
  obtain ⟨g4, hg4⟩ : ∃ g4, g4 = rg_ui (rg_ui (rg_ui (rg_ui pq_g0 0 (lc_fi X 0)) 27 (lc_fi X 1)) 28 (lc_fi X 2)) 1 (lc_fi X 3) := ⟨_, rfl⟩
  have x1 : x 1 = 48 + lc_fi X 0 := xf 0 (by decide)
  have x2 : x 2 = 48 + lc_fi X 1 := xf 1 (by decide)
  have x3 : x 3 = 48 + lc_fi X 2 := xf 2 (by decide)
  have x4 : x 4 = 48 + lc_fi X 3 := xf 3 (by decide)
  have eng : ps_eng x (7 + R + 3 * M) (0, pq_g0) = (true, 5, g4) := by
    unfold ps_eng
    show (if ps_c x (7 + R + 3 * M) 0 = 101 then ps_e1 x (7 + R + 3 * M) (0 + 1, pq_g0) else _) = _
    rw [if_pos c0]
    unfold ps_e1
    rw [tx_pf (p := 0 + 1) (by omega) x1 (lc_fi_0 X), if_pos rfl]
    unfold ps_e2
    rw [tx_pf (p := 0 + 1 + 1) (by omega) x2 (lc_fi_1 X), if_pos rfl]
    unfold ps_e3
    rw [tx_pf (p := 0 + 1 + 1 + 1) (by omega) x3 (lc_fi_2 X), if_pos rfl]
    unfold ps_e4
    rw [tx_pf (p := 0 + 1 + 1 + 1 + 1) (by omega) x4 (lc_fi_3 X (w := 3) (by decide) (by decide) (by decide)), hg4]
  have g42 : g4 2 = 0 := by
    rw [hg4, rg_ui_n (by decide), rg_ui_n (by decide), rg_ui_n (by decide), rg_ui_n (by decide)]
    rfl
  have g436 : g4 36 = 0 := by
    rw [hg4, rg_ui_n (by decide), rg_ui_n (by decide), rg_ui_n (by decide), rg_ui_n (by decide)]
    rfl
  obtain ⟨G, l1, l2, l3, l4⟩ := tx_rl hR hx 6 0 g4 (by decide) (by omega) (by rw [g42]; rfl) (fun j hj => by omega)
  have Q : tx_Q X 0 G := by
    refine ⟨?_, ?_, ?_, fun j hj => l3 j (by omega), ⟨?_, ?_, ?_⟩, fun j hj => by omega⟩
    · rw [l4 0 (by decide) (by decide), hg4, rg_ui_n (by decide), rg_ui_n (by decide), rg_ui_n (by decide), rg_ui_s]
    · rw [l4 1 (by decide) (by decide), hg4, rg_ui_s]
    · rw [l2, hR]
    · rw [l4 27 (by decide) (by decide), hg4, rg_ui_n (by decide), rg_ui_n (by decide), rg_ui_s]
    · rw [l4 28 (by decide) (by decide), hg4, rg_ui_n (by decide), rg_ui_s]
    · rw [l4 36 (by decide) (by decide), g436]
      rfl
  have sk : ps_sk x (7 + R + 3 * M) 60 (6 + R) = 7 + R + 3 * 0 := by
    show (if ps_c x (7 + R + 3 * M) (6 + R) = 32 then ps_sk x (7 + R + 3 * M) 59 (6 + R + 1) else 6 + R) = _
    rw [if_pos cb, show 6 + R + 1 = 7 + R + 3 * 0 by omega]
    refine tx_sk 59 fun z => ?_
    unfold ps_c at z
    by_cases y : 7 + R + 3 * 0 < 7 + R + 3 * M
    · rw [if_pos y, hx _ y] at z
      have t : tx_x X R (7 + R + 3 * 0) = tx_w X 0 0 := tx_g X R 0 (r := 0) (by decide)
      rw [t] at z
      have u := tx_kc_32 (lc_wa X ((0 : Nat) : Int) 0)
      have z : tx_kc (lc_wa X ((0 : Nat) : Int) 0) = 32 := z
      rw [z] at u
      exact absurd u.1 (by decide)
    · rw [if_neg y] at z
      exact absurd z (by decide)
  obtain ⟨H, h1, h2⟩ := tx_lp hR hM hx 7 0 (6 + R) G (by omega) (by omega) sk Q
  refine ⟨H, ?_, h2⟩
  unfold ps_all
  rw [tx_sk 60 (by rw [c0]; decide), eng, if_pos rfl]
  show ps_r1 x (7 + R + 3 * M) (ps_sk x (7 + R + 3 * M) 60 5, g4) = _
  rw [tx_sk 60 (by rw [c5]; decide)]
  unfold ps_r1
  show (if ps_c x (7 + R + 3 * M) 5 = 105 then ps_r2 x (7 + R + 3 * M) (ps_rl x (7 + R + 3 * M) 6 (6 + 0, g4)) else _) = _
  rw [if_pos c5, l1]
  unfold ps_r2
  show (if 0 < G 2 ∧ ps_c x (7 + R + 3 * M) (6 + R) ≠ 100 ∧ ps_c x (7 + R + 3 * M) (6 + R) ≠ 108 then ps_lp x (7 + R + 3 * M) 7 (6 + R, G) else _) = _
  rw [cb, l2, if_pos ⟨by omega, by decide, by decide⟩]
  exact h1
theorem tx_Q.ax {X : rf_X} {M : Nat} {G : Nat → Int} (h : tx_Q X M G) (hM : lc_ws X = (M : Int)) : lc_AX X G := ⟨h.1, h.2.1, h.2.2.1, h.2.2.2.1, fun i hi => h.2.2.2.2.2 i (by omega)⟩
theorem tx_x_b (X : rf_X) (R j : Nat) : 32 ≤ tx_x X R j ∧ tx_x X R j ≤ 119 := by
  unfold tx_x
  split
  · exact ⟨by decide, by decide⟩
  · split
    · rename_i h0 h
      have e : (j : Int) - 1 = 0 ∨ (j : Int) - 1 = 1 ∨ (j : Int) - 1 = 2 ∨ (j : Int) - 1 = 3 := by omega
      have b0 := lc_fi_0 X
      have b1 := lc_fi_1 X
      have b2 := lc_fi_2 X
      have b3 := lc_fi_3 X (w := 3) (by decide) (by decide) (by decide)
      have key : ∀ v : Int, 0 ≤ v ∧ v ≤ 9 → 32 ≤ 48 + v ∧ 48 + v ≤ 119 := fun v hv => ⟨by omega, by omega⟩
      rcases e with e | e | e | e <;> rw [e]
      · exact key _ ⟨Int.le_trans (by decide) b0.1, b0.2⟩
      · exact key _ b1
      · exact key _ b2
      · exact key _ ⟨b3.1, Int.le_trans b3.2 (by decide)⟩
    · split
      · exact ⟨by decide, by decide⟩
      · split
        · have := tx_rc_32 (lc_ra X ((j : Int) - 6))
          exact ⟨Int.le_of_lt this.1, this.2⟩
        · split
          · exact ⟨by decide, by decide⟩
          · unfold tx_w
            have key : ∀ v : Int, 1 ≤ v ∧ v ≤ 9 → 32 ≤ 48 + v ∧ 48 + v ≤ 119 := fun v hv => ⟨by omega, by omega⟩
            split
            · have := tx_kc_32 (lc_wa X (((j - (7 + R)) / 3 : Nat) : Int) 0)
              exact ⟨Int.le_of_lt this.1, this.2⟩
            · split
              · exact key _ (lc_wa_1 X _)
              · exact key _ (lc_wa_2 X _ (w := 2) (by decide) (by decide))
