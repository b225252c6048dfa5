/-! What the law tells: a train is made of it. -/
theorem pq_w8 {z : Int} (h : 0 ≤ z ∧ z ≤ 127) : rf_w8 z = z := by
  unfold rf_w8
  omega
theorem pq_nw (T : List rf_Sh) (D : rf_D) (P : rf_P) (X : rf_X) {L : Nat} (hL : T.length = L) (n : Nat) : ∃ (D1 : rf_D) (P1 : rf_P), rf_nw (T, D, P, X) (.inr (0, n)) = (T ++ [.inr (0, n)], D1, P1, X) ∧ (∀ k, k ≠ L → D1 k = D k) ∧ (∀ k i, k < L → P1 k i = P k i) ∧ ∀ i, D1 L i = 0 := by
  refine ⟨fun k i => if k = T.length then 0 else D k i, fun k i => if k = T.length then none else P k i, rfl, fun k hk => ?_, fun k i hk => ?_, fun i => ?_⟩
  · funext i
    show (if k = T.length then 0 else D k i) = D k i
    rw [if_neg (by omega)]
  · show (if k = T.length then none else P k i) = P k i
    rw [if_neg (by omega)]
  · show (if L = T.length then 0 else D L i) = 0
    rw [if_pos hL.symm]
/-- the heap while the law tells -/
def tp (P : rf_P) (X : rf_X) (D : rf_D) : rf_H := (rg_T ++ [.inr (0, 64)], D, P, X)
def tq (P : rf_P) (X : rf_X) (D : rf_D) (g : Nat → Int) : rf_H := tp P X (rg_up D 77 g)
section PQH
variable {P : rf_P} {X : rf_X} {D : rf_D} {g : Nat → Int}
theorem tp_up (hP : ∀ k i, k < 77 → P k i = rg_P k i) {D' : rf_D} {d u : Nat} {as : List rf_V} {v : Option rf_V} (e : rf_call d u as (hp X D) = some (v, hp X D')) : rf_call d u as (tp P X D) = some (v, tp P X D') := pq_up hP e
theorem tp_o (P : rf_P) (X : rf_X) (D : rf_D) : rf_isO (tp P X D).1 0 4 = true := rfl
theorem tp_X (P : rf_P) (X : rf_X) (D : rf_D) : (tp P X D).2.2.2 = X := rfl
theorem tq_X (P : rf_P) (X : rf_X) (D : rf_D) (g : Nat → Int) : (tq P X D g).2.2.2 = X := rfl
theorem tp_aI {j : Int} (j0 : 0 ≤ j) (j1 : j < 64) : rf_aI (tp P X D) 77 j = some (D 77 j.toNat) := rh_aI (T := rg_T ++ [.inr (0, 64)]) (n := 64) (k := 77) (by decide) rfl j0 j1
theorem tq_sI {j v : Int} (j0 : 0 ≤ j) (j1 : j < 64) : rf_sI (tq P X D g) 77 j v = some (tq P X D (rg_ui g j.toNat v)) := by
  have e := rh_sI (T := rg_T ++ [.inr (0, 64)]) (D := rg_up D 77 g) (P := P) (X := X) (n := 64) (k := 77) (v := v) rfl j0 j1
  rw [rg_up_s, rg_up_u] at e
  exact e
/-- one figure more -/
theorem tq_1 {R p q : Nat} {v : Int} (hg : ∀ j, j < p → g j = tx_x X R j) (hv : v = tx_x X R p) (hq : q = p + 1) : ∀ j, j < q → rg_ui g p v j = tx_x X R j := fun j hj => by
  by_cases z : j = p
  · rw [z, rg_ui_s, hv]
  · rw [rg_ui_n z]
    exact hg j (by omega)
theorem pq_48 {v : Int} (h : 0 ≤ v ∧ v ≤ 9) : rf_w (48 + v) = 48 + v := rg_w (by omega) (by omega)
theorem lc_fi_9 (X : rf_X) {i : Nat} (h : i < 4) : 0 ≤ lc_fi X (i : Int) ∧ lc_fi X (i : Int) ≤ 9 := by
  have b0 := lc_fi_0 X
  have b1 := lc_fi_1 X
  have b2 := lc_fi_2 X
  have b3 := lc_fi_3 X (w := 3) (by decide) (by decide) (by decide)
  have e : (i : Int) = 0 ∨ (i : Int) = 1 ∨ (i : Int) = 2 ∨ (i : Int) = 3 := by omega
  rcases e with e | e | e | e <;> rw [e]
  · exact ⟨Int.le_trans (by decide) b0.1, b0.2⟩
  · exact b1
  · exact b2
  · exact ⟨b3.1, Int.le_trans b3.2 (by decide)⟩
theorem tx_w_0 (X : rf_X) (i : Nat) : tx_w X i 0 = tx_kc (lc_wa X (i : Int) 0) := by
  unfold tx_w
  rw [if_pos (by decide)]
theorem tx_w_1 (X : rf_X) (i : Nat) : tx_w X i 1 = 48 + lc_wa X (i : Int) 1 := by
  unfold tx_w
  rw [if_neg (by decide), if_pos (by decide)]
theorem tx_w_2 (X : rf_X) (i : Nat) : tx_w X i 2 = 48 + lc_wa X (i : Int) 2 := by
  unfold tx_w
  rw [if_neg (by decide), if_neg (by decide)]
theorem tq_13 (R : Nat) (d : Nat) : ∀ (k i : Nat) (g : Nat → Int), i + k = 4 → (∀ j, j < 1 + i → g j = tx_x X R j) → ∃ g', rf_j_L_tells_13 (d + 9) 0 1000000 0 77 (i : Int) (tq P X D g) = rf_j_L_tells_52 (d + 9) 0 1000000 0 77 6 0 (tq P X D g') ∧ ∀ j, j < 6 → g' j = tx_x X R j
  | 0, i, g, hk, hg => by
    refine ⟨rg_ui g 5 105, ?_, tq_1 (p := 5) (fun j hj => hg j (by omega)) (tx_5 X R).symm rfl⟩
    rw [rf_e_L_tells_13, if_neg (by omega), tq_sI (by decide) (by decide)]
    simp only [Int.reduceToNat, rg_bs, rg_kIs]
  | k + 1, i, g, hk, hg => by
    have b := lc_fi_9 X (i := i) (by omega)
    obtain ⟨g', e1, e2⟩ := tq_13 R d k (i + 1) (rg_ui g (1 + i) (48 + lc_fi X (i : Int))) (by omega) (tq_1 hg (tx_f X R (by omega)).symm (by omega))
    refine ⟨g', ?_, e2⟩
    rw [rf_e_L_tells_13, if_pos (by omega), show rf_w (1 + (i : Int)) = ((1 + i : Nat) : Int) from (rg_w (by omega) (by omega)).trans (by omega), xs_1 (show i ≤ 1000 by omega), lq_first (tq_X P X D g) (d + 7)]
    simp only [Int.reduceToNat, rg_bs, rg_kIs]
    rw [pq_48 b, tq_sI (by omega) (by omega), Int.toNat_natCast]
    simp only [Int.reduceToNat, rg_bs, rg_kIs]
    exact e1
theorem tq_52 {R : Nat} (hR : lc_rs X = (R : Int)) (d : Nat) : ∀ (k i : Nat) (g : Nat → Int), i + k = R → (∀ j, j < 6 + i → g j = tx_x X R j) → ∃ g', rf_j_L_tells_52 (d + 9) 0 1000000 0 77 ((6 + i : Nat) : Int) (i : Int) (tq P X D g) = rf_j_L_tells_117 (d + 9) 0 1000000 0 77 ((7 + R : Nat) : Int) 0 (tq P X D g') ∧ ∀ j, j < 7 + R → g' j = tx_x X R j
  | 0, i, g, hk, hg => by
    have r6 := lc_rs_b X
    have e : i = R := by omega
    rw [e] at hg ⊢
    refine ⟨rg_ui g (6 + R) 32, ?_, tq_1 hg (tx_b X R).symm (by omega)⟩
    rw [rf_e_L_tells_52, lq_rails (tq_X P X D g) (d + 7)]
    simp only [Int.reduceToNat, rg_bs, rg_kIs]
    rw [hR, if_neg (by omega), tq_sI (by omega) (by omega), Int.toNat_natCast]
    simp only [Int.reduceToNat, rg_bs, rg_kIs]
    rw [xs_1 (show 6 + R ≤ 1000 by omega), show 6 + R + 1 = 7 + R by omega]
  | k + 1, i, g, hk, hg => by
    have r6 := lc_rs_b X
    have bi : rf_w (((6 + i : Nat) : Int) + 1) = ((6 + (i + 1) : Nat) : Int) := (xs_1 (show 6 + i ≤ 1000 by omega)).trans (by omega)
    obtain ⟨g', e1, e2⟩ := tq_52 hR d k (i + 1) (rg_ui g (6 + i) (tx_rc (lc_ra X (i : Int)))) (by omega) (tq_1 hg (tx_r X (by omega)).symm (by omega))
    have nx : ∀ v, v = tx_rc (lc_ra X (i : Int)) → ((rf_sI (tq P X D g) 77 ((6 + i : Nat) : Int) v).bind fun h10 => rf_j_L_tells_96 (d + 9) 0 1000000 0 77 ((6 + i : Nat) : Int) (i : Int) h10) = rf_j_L_tells_52 (d + 9) 0 1000000 0 77 ((6 + (i + 1) : Nat) : Int) ((i + 1 : Nat) : Int) (tq P X D (rg_ui g (6 + i) (tx_rc (lc_ra X (i : Int))))) := fun v hv => by
      rw [hv, tq_sI (by omega) (by omega), Int.toNat_natCast]
      simp only [Int.reduceToNat, rg_bs, rg_kIs]
      rw [rf_e_L_tells_96, bi, xs_1 (show i ≤ 1000 by omega)]
    refine ⟨g', ?_, e2⟩
    rw [rf_e_L_tells_52, lq_rails (tq_X P X D g) (d + 7)]
    simp only [Int.reduceToNat, rg_bs, rg_kIs]
    rw [hR, if_pos (by omega), lq_rail (tq_X P X D g) (d + 6)]
    simp only [Int.reduceToNat, rg_bs, rg_kIs]
    unfold tx_rc at nx e1
    by_cases c0 : lc_ra X (i : Int) = 0
    · rw [if_pos c0] at nx e1
      rw [if_pos c0, nx _ rfl]
      exact e1
    · rw [if_neg c0] at nx e1
      rw [if_neg c0]
      by_cases c1 : lc_ra X (i : Int) = 1
      · rw [if_pos c1] at nx e1
        rw [if_pos c1, nx _ rfl]
        exact e1
      · rw [if_neg c1] at nx e1
        rw [if_neg c1, nx _ rfl]
        exact e1
theorem tq_117 {R M : Nat} (hR : lc_rs X = (R : Int)) (hM : lc_ws X = (M : Int)) (d : Nat) : ∀ (k i : Nat) (g : Nat → Int), i + k = M → (∀ j, j < 7 + R + 3 * i → g j = tx_x X R j) → ∃ g', rf_j_L_tells_117 (d + 9) 0 1000000 0 77 ((7 + R + 3 * i : Nat) : Int) (i : Int) (tq P X D g) = rf_j_L_tells_117 (d + 9) 0 1000000 0 77 ((7 + R + 3 * M : Nat) : Int) (M : Int) (tq P X D g') ∧ ∀ j, j < 7 + R + 3 * M → g' j = tx_x X R j
  | 0, i, g, hk, hg => by
    have e : i = M := by omega
    rw [e] at hg ⊢
    exact ⟨g, rfl, hg⟩
  | k + 1, i, g, hk, hg => by
    have r6 := lc_rs_b X
    have m5 := lc_ws_b X
    have b0 := lc_wa_0 X (i : Int)
    have b1 := lc_wa_1 X (i : Int)
    have b2 := lc_wa_2 X (i : Int) (w := 2) (by decide) (by decide)
    obtain ⟨p, hp⟩ : ∃ p, p = 7 + R + 3 * i := ⟨_, rfl⟩
    have g0 := tx_g X R i (r := 0) (by decide)
    have g1 := tx_g X R i (r := 1) (by decide)
    have g2 := tx_g X R i (r := 2) (by decide)
    rw [tx_w_0, Nat.add_zero] at g0
    rw [tx_w_1] at g1
    rw [tx_w_2] at g2
    rw [← hp] at g0 g1 g2 hg ⊢
    obtain ⟨v0, hv0⟩ : ∃ v, v = tx_kc (lc_wa X (i : Int) 0) := ⟨_, rfl⟩
    have s0 := tq_1 (q := p + 1) hg (hv0.trans g0.symm) rfl
    have s1 := tq_1 (q := p + 2) s0 (v := 48 + lc_wa X (i : Int) 1) g1.symm rfl
    have s2 := tq_1 (q := 7 + R + 3 * (i + 1)) s1 (v := 48 + lc_wa X (i : Int) 2) g2.symm (by omega)
    obtain ⟨g', e1, e2⟩ := tq_117 hR hM d k (i + 1) _ (by omega) s2
    have p60 : p ≤ 60 := by omega
    have nx : ∀ v, v = v0 → ((rf_sI (tq P X D g) 77 (p : Int) v).bind fun h10 => rf_j_L_tells_195 (d + 9) 0 1000000 0 77 (p : Int) (i : Int) h10) = rf_j_L_tells_117 (d + 9) 0 1000000 0 77 ((7 + R + 3 * (i + 1) : Nat) : Int) ((i + 1 : Nat) : Int) (tq P X D (rg_ui (rg_ui (rg_ui g p v0) (p + 1) (48 + lc_wa X (i : Int) 1)) (p + 2) (48 + lc_wa X (i : Int) 2))) := fun v hv => by
      rw [hv, tq_sI (by omega) (by omega), Int.toNat_natCast]
      simp only [Int.reduceToNat, rg_bs, rg_kIs]
      rw [rf_e_L_tells_195, show rf_w ((p : Int) + 1) = ((p + 1 : Nat) : Int) from xs_1 (by omega), show rf_w ((p : Int) + 2) = ((p + 2 : Nat) : Int) from (rg_w (by omega) (by omega)).trans (by omega), show rf_w ((p : Int) + 3) = ((7 + R + 3 * (i + 1) : Nat) : Int) from (rg_w (by omega) (by omega)).trans (by omega), xs_1 (show i ≤ 1000 by omega), lq_wagon (tq_X P X D _) (d + 7) (by omega) (by omega) 1]
      simp only [Int.reduceToNat, rg_bs, rg_kIs]
      rw [pq_48 ⟨Int.le_trans (by decide) b1.1, b1.2⟩, tq_sI (by omega) (by omega), Int.toNat_natCast]
      simp only [Int.reduceToNat, rg_bs, rg_kIs]
      rw [lq_wagon (tq_X P X D _) (d + 7) (by omega) (by omega) 2]
      simp only [Int.reduceToNat, rg_bs, rg_kIs]
      rw [pq_48 ⟨Int.le_trans (by decide) b2.1, b2.2⟩, tq_sI (by omega) (by omega), Int.toNat_natCast]
      simp only [Int.reduceToNat, rg_bs, rg_kIs]
    refine ⟨g', ?_, e2⟩
    rw [rf_e_L_tells_117, lq_wagons (tq_X P X D g) (d + 7)]
    simp only [Int.reduceToNat, rg_bs, rg_kIs]
    rw [hM, if_pos (by omega), lq_wagon (tq_X P X D g) (d + 7) (by omega) (by omega) 0]
    simp only [Int.reduceToNat, rg_bs, rg_kIs]
    unfold tx_kc at hv0
    by_cases c0 : lc_wa X (i : Int) 0 = 0
    · rw [if_pos c0] at hv0
      rw [if_pos c0, nx _ hv0.symm]
      exact e1
    rw [if_neg c0] at hv0 ⊢
    by_cases c1 : lc_wa X (i : Int) 0 = 1
    · rw [if_pos c1] at hv0
      rw [if_pos c1, nx _ hv0.symm]
      exact e1
    rw [if_neg c1] at hv0 ⊢
    by_cases c2 : lc_wa X (i : Int) 0 = 2
    · rw [if_pos c2] at hv0
      rw [if_pos c2, nx _ hv0.symm]
      exact e1
    rw [if_neg c2] at hv0 ⊢
    by_cases c3 : lc_wa X (i : Int) 0 = 3
    · rw [if_pos c3] at hv0
      rw [if_pos c3, nx _ hv0.symm]
      exact e1
    rw [if_neg c3] at hv0 ⊢
    by_cases c4 : lc_wa X (i : Int) 0 = 4
    · rw [if_pos c4] at hv0
      rw [if_pos c4, nx _ hv0.symm]
      exact e1
    rw [if_neg c4] at hv0 ⊢
    rw [nx _ hv0.symm]
    exact e1
theorem tq_258 (hP : ∀ k i, k < 77 → P k i = rg_P k i) {R N : Nat} (hN : N ≤ 60) {g : Nat → Int} (hg : ∀ j, j < N → g j = tx_x X R j) (d : Nat) : ∀ (k i : Nat) (D : rf_D), i + k = N → D 6 1 = 6 → D 56 1 = (N : Int) → D 77 = g → (∀ j, j < i → D 57 j = tx_x X R j) → (∀ j, i ≤ j → j < N → D 57 j = 32) → ∃ D', rf_j_L_tells_258 (d + 9) 0 1000000 0 77 (N : Int) 1 (i : Int) (tp P X D) = rf_j_L_tells_258 (d + 9) 0 1000000 0 77 (N : Int) 1 (N : Int) (tp P X D') ∧ (∀ j, j < N → D' 57 j = tx_x X R j) ∧ ∀ a, a ≠ 57 → D' a = D a
  | 0, i, D, hk, h6, hZ, h7, ha, hb => by
    have e : i = N := by omega
    rw [e] at ha ⊢
    exact ⟨D, rfl, ha, fun _ _ => rfl⟩
  | k + 1, i, D, hk, h6, hZ, h7, ha, hb => by
    have pu := pq_put (X := X) (D := D) (R := 0) (I := i) (by decide) h6 (by rw [show 56 + 2 * 0 = 56 from rfl, hZ]; omega) (by rw [show 56 + 2 * 0 = 56 from rfl, hZ]; omega) (tx_x X R i) (d + 1)
    rw [show ((0 : Nat) : Int) = 0 from rfl, show 56 + 2 * 0 + 1 = 57 from rfl, hb i (Nat.le_refl i) (by omega), show rf_w (32 + 1000) = 1032 from rfl, pq_w8 ⟨Int.le_trans (by decide) (tx_x_b X R i).1, Int.le_trans (tx_x_b X R i).2 (by decide)⟩] at pu
    obtain ⟨D1, hD1⟩ : ∃ D1, D1 = rg_up D 57 (rg_ui (D 57) i (tx_x X R i)) := ⟨_, rfl⟩
    rw [← hD1] at pu
    have n1 : ∀ a, a ≠ 57 → D1 a = D a := fun a y => by rw [hD1, rg_up_n y]
    obtain ⟨D', e1, e2, e3⟩ := tq_258 hP hN hg d k (i + 1) D1 (by omega) (by rw [n1 6 (by decide)]; exact h6) (by rw [n1 56 (by decide)]; exact hZ) (by rw [n1 77 (by decide)]; exact h7) (by rw [hD1, rg_up_s]; exact tq_1 ha rfl rfl) (fun j y1 y2 => by
      rw [hD1, rg_up_s, rg_ui_n (by omega)]
      exact hb j (by omega) y2)
    refine ⟨D', ?_, e2, fun a y => (e3 a y).trans (n1 a y)⟩
    rw [rf_e_L_tells_258, if_pos (by omega), if_neg (by decide), tp_aI (by omega) (by omega)]
    simp only [Int.reduceToNat, rg_bs, rg_kIs]
    rw [tp_o, Int.toNat_natCast, h7, hg i (by omega)]
    simp only [cond_true]
    rw [tp_up hP pu]
    simp only [Int.reduceToNat, rg_bs, rg_kIs]
    rw [if_pos (by first | rfl | trivial), rf_e_L_tells_294, xs_1 (show i ≤ 1000 by omega)]
    exact e1
theorem lq_tells (hX : XL X) (hS : pq_TS D) (d : Nat) : ∃ (P1 : rf_P) (D1 : rf_D) (G : Nat → Int), rf_call (d + 10) 121 [.inr (.inr (some 0)), .inr (.inr (some 1000000)), .inl 0] (hp X D) = some (some (.inl 1), tp P1 X D1) ∧ (∀ k i, k < 77 → P1 k i = rg_P k i) ∧ pq_DS D1 G (lc_fi X 1) (lc_fi X 2) (lc_ws X) 0 ∧ lc_AX X G := by
  have r6 := lc_rs_b X
  have m5 := lc_ws_b X
  obtain ⟨R, hR⟩ := Int.eq_ofNat_of_zero_le (show 0 ≤ lc_rs X by omega)
  obtain ⟨M, hM⟩ := Int.eq_ofNat_of_zero_le m5.1
  obtain ⟨N, hN⟩ : ∃ N, N = 7 + R + 3 * M := ⟨_, rfl⟩
  have N60 : N ≤ 60 := by omega
  obtain ⟨D0, P1, w1, w2, w3, w4⟩ := pq_nw rg_T D rg_P X (L := 77) rfl 64
  have hl := pq_hl X D
  have w1 : rf_nw (hp X D) (.inr (0, 64)) = tp P1 X D0 := w1
  have e0 : tp P1 X D0 = tq P1 X D0 (D0 77) := by
    unfold tq
    rw [rg_up_i]
  obtain ⟨ga, a1, a2⟩ := tq_13 (P := P1) (X := X) (D := D0) R d 4 0 (rg_ui (D0 77) 0 101) (by decide) (tq_1 (p := 0) (fun j hj => by omega) rfl rfl)
  obtain ⟨gb, b1, b2⟩ := tq_52 (P := P1) (D := D0) hR d R 0 ga (by omega) a2
  obtain ⟨g, c1, c2⟩ := tq_117 (P := P1) (D := D0) hR hM d M 0 gb (by omega) b2
  rw [← hN] at c1 c2
  obtain ⟨D2, hD2⟩ : ∃ D2, D2 = rg_up D0 77 g := ⟨_, rfl⟩
  have n2 : ∀ a, a ≠ 77 → D2 a = D a := fun a y => by rw [hD2, rg_up_n y, w2 a y]
  have tx := pq_text (X := X) (D := D2) (R := 0) (N := N) (by decide) N60 (d + 1)
  rw [show ((0 : Nat) : Int) = 0 from rfl, show 56 + 2 * 0 + 1 = 57 from rfl, show 56 + 2 * 0 = 56 from rfl] at tx
  obtain ⟨D3, hD3⟩ : ∃ D3, D3 = rg_up (rg_up D2 56 (rg_ui (D2 56) 1 (N : Int))) 57 (fun j => if (j : Int) < (N : Int) then 32 else D2 57 j) := ⟨_, rfl⟩
  rw [← hD3] at tx
  have n3 : ∀ a, a ≠ 56 → a ≠ 57 → D3 a = D2 a := fun a y1 y2 => by rw [hD3, rg_up_n y2, rg_up_n y1]
  have z3 : D3 56 1 = (N : Int) := by rw [hD3, rg_up_n (by decide), rg_up_s, rg_ui_s]
  obtain ⟨D4, f1, f2, f3⟩ := tq_258 (X := X) w3 (R := R) N60 c2 d N 0 D3 (by omega) (by rw [n3 6 (by decide) (by decide), n2 6 (by decide)]; exact hS.1) z3 (by rw [n3 77 (by decide) (by decide), hD2, rg_up_s]) (fun j hj => by omega) (fun j _ hj => by
    rw [hD3, rg_up_s]
    show (if (j : Int) < (N : Int) then 32 else D2 57 j) = 32
    rw [if_pos (by omega)])
  obtain ⟨G, p1, p2⟩ := tx_all (x := D4 57) hR hM (by rw [← hN]; exact f2)
  rw [← hN] at p1
  have z4 : D4 56 1 = (N : Int) := by rw [f3 56 (by decide), z3]
  have b4 : ∀ D' : rf_D, D' 57 = D4 57 → ∀ k, k < N → -128 ≤ D' 57 k ∧ D' 57 k ≤ 127 := fun D' e k hk => by
    rw [e, f2 k hk]
    exact ⟨Int.le_trans (by decide) (tx_x_b X R k).1, Int.le_trans (tx_x_b X R k).2 (by decide)⟩
  obtain ⟨D5, q1, q2⟩ := pq_fault hX z4 N60 (b4 D4 rfl) (by rw [p1]) (d + 1)
  have e57 : D5 57 = D4 57 := q2 57 (by omega)
  have S5 : pq_TS D5 := by
    unfold pq_TS
    rw [q2 6 (by omega), q2 8 (by omega), q2 10 (by omega), f3 6 (by decide), f3 8 (by decide), f3 10 (by decide), n3 6 (by decide) (by decide), n3 8 (by decide) (by decide), n3 10 (by decide) (by decide), n2 6 (by decide), n2 8 (by decide), n2 10 (by decide)]
    exact hS
  obtain ⟨D6, t1, t2, -⟩ := pq_train hX S5 (by rw [q2 56 (by omega)]; exact z4) N60 (b4 D5 e57) (by rw [e57, p1]) (G := G) (by rw [e57, p1]) (d + 1)
  have q27 : G 27 = lc_fi X 1 := p2.2.2.2.2.1.1
  have q28 : G 28 = lc_fi X 2 := p2.2.2.2.2.1.2.1
  have q36 : G 36 = lc_ws X := p2.2.2.2.2.1.2.2.trans hM.symm
  rw [q27, q28, q36] at t2
  rw [q36] at t1
  refine ⟨P1, D6, G, ?_, w3, t2, p2.ax hM⟩
  rw [rf_e_L_tells, hl, if_pos (by decide), show Int.toNat 64 = 64 from rfl, w1, e0, tq_sI (by decide) (by decide)]
  simp only [Int.reduceToNat, rg_bs, rg_kIs]
  have a1 : rf_j_L_tells_13 (d + 9) 0 1000000 0 77 0 (tq P1 X D0 (rg_ui (D0 77) 0 101)) = _ := a1
  have b1 : rf_j_L_tells_52 (d + 9) 0 1000000 0 77 6 0 (tq P1 X D0 ga) = _ := b1
  have c1 : rf_j_L_tells_117 (d + 9) 0 1000000 0 77 ((7 + R : Nat) : Int) 0 (tq P1 X D0 gb) = _ := c1
  have f1 : rf_j_L_tells_258 (d + 9) 0 1000000 0 77 (N : Int) 1 0 (tp P1 X D3) = _ := f1
  rw [a1, b1, c1, rf_e_L_tells_117, lq_wagons (tq_X P1 X D0 g) (d + 7)]
  simp only [Int.reduceToNat, rg_bs, rg_kIs]
  rw [hM, if_neg (by omega), show tq P1 X D0 g = tp P1 X D2 by rw [hD2]; rfl, tp_o]
  simp only [cond_true]
  rw [tp_up w3 tx]
  simp only [Int.reduceToNat, rg_bs, rg_kIs]
  rw [if_pos (by first | rfl | trivial), rf_e_L_tells_255, f1, rf_e_L_tells_258, if_neg (by omega), if_neg (by decide), tp_o]
  simp only [cond_true]
  rw [tp_up w3 q1]
  simp only [Int.reduceToNat, rg_bs, rg_kIs]
  rw [if_pos (by first | rfl | trivial), tp_o]
  simp only [cond_true]
  rw [tp_up w3 t1]
  simp only [Int.reduceToNat, rg_bs, rg_kIs]
  rw [lq_wagons (tp_X P1 X D6) (d + 7)]
  simp only [Int.reduceToNat, rg_bs, rg_kIs]
  rw [if_pos (by first | rfl | trivial)]
end PQH
