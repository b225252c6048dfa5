/-! The law's body: a plan run, its odds, and done one by one. -/
section PQN
variable {P : rf_P} {X : rf_X} {D : rf_D} {G E : Nat → Int} {n d : Nat}
theorem lw_600 (hP : ∀ k i, k < 77 → P k i = rg_P k i) {Z : Nat} (Z6 : Z ≤ 6) (d : Nat) : ∀ (k i : Nat) (D : rf_D), i + k = Z → lwS X G E n D → D 52 1 = (Z : Int) → (∀ j, j < i → 0 ≤ D 53 j ∧ D 53 j < 15) → ∃ D' : rf_D, rf_j_L_law_600 (d + 15) 1000000 0 1 (some 78) (n : Int) (Z : Int) (i : Int) (lh P X D) = rf_j_L_law_600 (d + 15) 1000000 0 1 (some 78) (n : Int) (Z : Int) (Z : Int) (lh P X D') ∧ lwS X G E n D' ∧ D' 52 1 = (Z : Int) ∧ ∀ j, j < Z → 0 ≤ D' 53 j ∧ D' 53 j < 15
  | 0, i, D, hk, h, hZ, hf => by
    have e : i = Z := by omega
    rw [e] at hf ⊢
    exact ⟨D, rfl, h, hZ, hf⟩
  | k + 1, i, D, hk, h, hZ, hf => by
    obtain ⟨v, hv⟩ : ∃ v, v = Int.tmod (rf_and (rf_shr (lc_cl X 18) (rf_w (4 * (i : Int)))) 15) 15 := ⟨_, rfl⟩
    have vb : 0 ≤ v ∧ v < 15 := by
      rw [hv]
      exact pq_tm (pq_and (by decide) (by decide)).1 (by decide)
    have la := pq_lay (X := X) (D := D) (R := 4) (I := i) (by decide) h.1.1.1 (by rw [show 44 + 2 * 4 = 52 from rfl, hZ]; omega) (by rw [show 44 + 2 * 4 = 52 from rfl, hZ]; omega) v (d + 7)
    rw [show ((4 : Nat) : Int) = 4 from rfl, show 44 + 2 * 4 + 1 = 53 from rfl] at la
    obtain ⟨D1, hD1⟩ : ∃ D1, D1 = wtl (D 53 i) (rg_up D 53 (rg_ui (D 53) i v)) := ⟨_, rfl⟩
    rw [← hD1] at la
    have n1 : ∀ a, a ≠ 0 → a ≠ 53 → D1 a = D a := fun a y1 y2 => by rw [hD1, wtl_n y1, rg_up_n y2]
    have S1 : lwS X G E n D1 := by
      have e : lwS X G E n (rg_up D 53 (rg_ui (D 53) i v)) := h.of (fun a ha => rg_up_n (by omega)) (by rw [rg_up_n (by decide)])
      rw [hD1]
      exact e.tl _
    obtain ⟨D', e1, e2, e3, e4⟩ := lw_600 hP Z6 d k (i + 1) D1 (by omega) S1 (by rw [n1 52 (by decide) (by decide)]; exact hZ) (fun j hj => by
      rw [hD1, wtl_n (by decide), rg_up_s]
      by_cases z : j = i
      · rw [z, rg_ui_s]
        exact vb
      · rw [rg_ui_n z]
        exact hf j (by omega))
    refine ⟨D', ?_, e2, e3, e4⟩
    rw [rf_e_L_law_600, if_pos (by omega), if_neg (by decide), q_I (lq_cell (lh_X P X D) (d + 14) (by decide)), ← hv, q_o, q_I (lh_up hP la), if_pos (by first | rfl | trivial), rf_e_L_law_645, xs_1 (show i ≤ 1000 by omega)]
    exact e1
theorem lw_564 (hP : ∀ k i, k < 77 → P k i = rg_P k i) (h : lwS X G E n D) (d : Nat) : ∃ (D' : rf_D) (Z : Nat), rf_j_L_law_564 (d + 15) 1000000 0 1 (some 78) (n : Int) (lh P X D) = rf_j_L_law_600 (d + 15) 1000000 0 1 (some 78) (n : Int) (Z : Int) (Z : Int) (lh P X D') ∧ lwS X G E n D' ∧ Z ≤ 6 ∧ D' 52 1 = (Z : Int) ∧ ∀ j, j < Z → 0 ≤ D' 53 j ∧ D' 53 j < 15 := by
  obtain ⟨Z, hZ, Z7⟩ := lw_m X 17 (y := 7) (by decide)
  have Z6 : Z ≤ 6 := by omega
  have ro := pq_row (X := X) (D := D) (R := 4) (N := Z) (by decide) (by omega) (d + 7)
  rw [show ((4 : Nat) : Int) = 4 from rfl, show 44 + 2 * 4 + 1 = 53 from rfl, show 44 + 2 * 4 = 52 from rfl] at ro
  obtain ⟨D1, hD1⟩ : ∃ D1, D1 = rg_up (rg_up D 52 (rg_ui (D 52) 1 (Z : Int))) 53 (fun j => if (j : Int) < (Z : Int) then 0 else D 53 j) := ⟨_, rfl⟩
  rw [← hD1] at ro
  have S1 : lwS X G E n D1 := h.of (fun a ha => by rw [hD1, rg_up_n (by omega), rg_up_n (by omega)]) (by rw [hD1, rg_up_n (by decide), rg_up_n (by decide)])
  obtain ⟨D', e1, e2, e3, e4⟩ := lw_600 hP Z6 d Z 0 D1 (by omega) S1 (by rw [hD1, rg_up_n (by decide), rg_up_s, rg_ui_s]) (fun j hj => by omega)
  have e1 : rf_j_L_law_600 (d + 15) 1000000 0 1 (some 78) (n : Int) (Z : Int) 0 (lh P X D1) = _ := e1
  refine ⟨D', Z, ?_, e2, Z6, e3, e4⟩
  rw [rf_e_L_law_564, q_I (lq_cell (lh_X P X D) (d + 14) (by decide)), if_neg (by decide), hZ, q_o, q_I (lh_up hP ro), if_pos (by first | rfl | trivial), rf_e_L_law_597, e1]
/-- the odds of that plan -/
theorem lw_odds (h : lwS X G E n D) {Z : Nat} (Z6 : Z ≤ 6) (hZ : D 52 1 = (Z : Int)) (hf : ∀ j, j < Z → 0 ≤ D 53 j ∧ D 53 j < 15) {dd w : Int} (d0 : 0 ≤ dd) (w0 : 0 ≤ w) (dw : dd + w ≤ 12) (d : Nat) : ∃ D' : rf_D, rf_call (d + 15) 94 [.inr (.inr (some 0)), .inl 4, .inl dd, .inl w] (hp X D) = some (some (.inl 1), hp X D') ∧ (lwS X G E n D' ∧ D' 52 = D 52 ∧ D' 53 = D 53) ∧ 0 ≤ D' 0 14 ∧ D' 0 14 ≤ D' 0 15 ∧ (dd = 12 → D' 0 15 = 1 ∧ (D' 0 14 = 0 ∨ D' 0 14 = 1)) := by
  obtain ⟨s, hs⟩ : ∃ s, s = lz X G E n := ⟨_, rfl⟩
  have rs := h.rs
  rw [← hs] at rs
  obtain ⟨D', p, gv, e1, e2, ⟨p0, p1, p2⟩, g1, g2, u1, u2⟩ := pq_odds (X := X) rs (R := 4) (Z := Z) (by decide) hZ Z6 hf d0 w0 dw d
  rw [show ((4 : Nat) : Int) = 4 from rfl] at e1
  rw [show 44 + 2 * 4 + 1 = 53 from rfl] at g2 u1
  obtain ⟨f, hf2⟩ : ∃ f, f = D 53 := ⟨_, rfl⟩
  rw [← hf2] at g2 u1
  have b := od_b (f := f) (p := p) (g := s 35) (by unfold PP; rw [p0, p1, p2]; exact ⟨d0, w0, by omega, by omega⟩) Z 0 s
  have t := tw_b Z6
  obtain ⟨o, ho⟩ : ∃ o, o = od_v f p (s 35) Z 0 s := ⟨_, rfl⟩
  rw [← ho] at g2 u1 b
  have q := pq_div b.1 b.2 g1 t.2
  refine ⟨D', e1, ⟨h.fq e2, e2.1 52 (by decide) (by decide) (by decide) (by decide), e2.1 53 (by decide) (by decide) (by decide) (by decide)⟩, by rw [u1]; exact q.1, by rw [u1, u2]; exact q.2, fun z => ?_⟩
  have o12 := pq_od12 (f := f) (p := p) (g := s 35) (by rw [p0, z]) (by rw [p1]; omega) (by rw [p2]; omega) Z 0 s
  rw [← ho] at o12
  obtain ⟨c1, c2⟩ := pq_gc0 Z (by omega)
  rcases o12 with a | a
  · rw [a, c1] at g2
    rw [u1, u2, a, g2, pq_one t.1 t.2, Int.zero_tdiv]
    exact ⟨rfl, Or.inl rfl⟩
  · rw [a, c2] at g2
    rw [u1, u2, a, g2, pq_one t.1 t.2]
    exact ⟨rfl, Or.inr rfl⟩
theorem lw_600e (hP : ∀ k i, k < 77 → P k i = rg_P k i) (h : lwS X G E n D) {Z : Nat} (Z6 : Z ≤ 6) (hZ : D 52 1 = (Z : Int)) (hf : ∀ j, j < Z → 0 ≤ D 53 j ∧ D 53 j < 15) (d : Nat) : ∃ D' : rf_D, rf_j_L_law_600 (d + 15) 1000000 0 1 (some 78) (n : Int) (Z : Int) (Z : Int) (lh P X D) = rf_j_L_law_724 (d + 15) 1000000 0 1 (some 78) (n : Int) (Z : Int) (rn_s (lz X G E n) (D 53) Z 35 - lz X G E n 35) (rn_s (lz X G E n) (D 53) Z 36) (lh P X D') ∧ lwS X G E n D' ∧ D' 52 = D 52 ∧ D' 53 = D 53 := by
  obtain ⟨s, hs⟩ : ∃ s, s = lz X G E n := ⟨_, rfl⟩
  have rs := h.rs
  rw [← hs] at rs
  obtain ⟨D1, u1, u2, u3⟩ := pq_run (X := X) rs (R := 4) (Z := Z) (by decide) hZ (by omega) hf (d + 7)
  rw [show ((4 : Nat) : Int) = 4 from rfl, show 44 + 2 * 4 + 1 = 53 from rfl] at u1
  rw [show 44 + 2 * 4 + 1 = 53 from rfl] at u3
  have S1 := h.fq u2
  have a52 : D1 52 = D 52 := u2.1 52 (by decide) (by decide) (by decide) (by decide)
  have a53 : D1 53 = D 53 := u2.1 53 (by decide) (by decide) (by decide) (by decide)
  have as := pq_asked (X := X) (D := D1) (d + 7)
  rw [u3] at as
  obtain ⟨t, ht, t11⟩ := lw_m X 19 (y := 11) (by decide)
  have x1 : rf_w (1 + Int.tmod (lc_cl X 19) 11) = 1 + (t : Int) := by
    rw [ht]
    exact rg_w (by omega) (by omega)
  obtain ⟨D2, o1, ⟨o2, o3, o4⟩, o5, o6, -⟩ := lw_odds S1 Z6 (by rw [a52]; exact hZ) (by rw [a53]; exact hf) (dd := 1 + (t : Int)) (w := rf_w (12 - (1 + (t : Int)))) (by omega) (by rw [rg_w (by omega) (by omega)]; omega) (by rw [rg_w (by omega) (by omega)]; omega) d
  have up := pq_upper (X := X) (D := D2) (d + 7)
  have lo' := pq_lower (X := X) (D := D2) (d + 7)
  refine ⟨D2, ?_, o2, o3.trans a52, o4.trans a53⟩
  rw [← hs, rf_e_L_law_600, if_neg (by omega), q_o, q_I (lh_up hP u1), q_o, q_I (lh_up hP as), q_I (lq_cell (lh_X P X _) (d + 14) (by decide)), if_neg (by decide), q_o, x1, q_I (lh_up hP o1), if_pos (by first | rfl | trivial), q_o, q_L (lh_up hP up), if_neg (fun z => Int.not_lt.2 o5 ((rg_cmpn _ _).1 z)), q_o, q_L (lh_up hP up), q_o, q_L (lh_up hP lo'), if_neg (fun z => Int.not_lt.2 o6 ((rg_cmpp _ _).1 z))]
theorem lw_740 (hP : ∀ k i, k < 77 → P k i = rg_P k i) (h : lwS X G E n D) {Z : Nat} (Z6 : Z ≤ 6) (hZ : D 52 1 = (Z : Int)) (hf : ∀ j, j < Z → 0 ≤ D 53 j ∧ D 53 j < 15) (l14 l15 l17 : Int) (d : Nat) : ∃ D' : rf_D, rf_j_L_law_740 (d + 15) 1000000 0 1 (some 78) (n : Int) (Z : Int) l14 l15 l17 (lh P X D) = rf_j_L_law_820 (d + 15) 1000000 0 1 (some 78) (n : Int) (Z : Int) l14 l15 0 (lh P X D') ∧ lwS X G E n D' ∧ D' 52 = D 52 ∧ D' 53 = D 53 := by
  obtain ⟨D1, o1, ⟨o2, o3, o4⟩, o5, o6, -⟩ := lw_odds h Z6 hZ hf (dd := 0) (w := 0) (by decide) (by decide) (by decide) d
  have up1 := pq_upper (X := X) (D := D1) (d + 7)
  have lo1 := pq_lower (X := X) (D := D1) (d + 7)
  obtain ⟨D2, q1, ⟨q2, q3, q4⟩, q5, q6, q7⟩ := lw_odds o2 Z6 (by rw [o3]; exact hZ) (by rw [o4]; exact hf) (dd := 12) (w := 0) (by decide) (by decide) (by decide) d
  obtain ⟨q8, q9⟩ := q7 rfl
  have up2 := pq_upper (X := X) (D := D2) (d + 7)
  have lo2 := pq_lower (X := X) (D := D2) (d + 7)
  rw [q8] at lo2
  refine ⟨D2, ?_, q2, q3.trans o3, q4.trans o4⟩
  rw [rf_e_L_law_740, if_neg (by decide), q_o, q_I (lh_up hP o1), if_pos (by first | rfl | trivial), q_o, q_L (lh_up hP up1), q_o, q_L (lh_up hP lo1), if_neg (fun z => Int.not_lt.2 o6 ((rg_cmpp _ _).1 z)), q_o, q_I (lh_up hP q1), if_pos (by first | rfl | trivial), q_o, q_L (lh_up hP lo2), if_pos (by decide)]
  have fin : rf_j_L_law_811 (d + 15) 1000000 0 (some 78) (n : Int) (Z : Int) l14 l15 (lh P X D2) = rf_j_L_law_820 (d + 15) 1000000 0 1 (some 78) (n : Int) (Z : Int) l14 l15 0 (lh P X D2) := by
    rw [rf_e_L_law_811, rf_e_L_law_817]
  by_cases y : l17 = 0
  · rw [if_pos y, q_o, q_L (lh_up hP up2)]
    rcases q9 with z | z
    · rw [z] at up2 ⊢
      rw [if_neg (by decide), q_o, q_L (lh_up hP up2), if_pos (by decide), fin]
    · rw [z, if_pos (by decide), fin]
  · rw [if_neg y, fin]
theorem lw_724 (hP : ∀ k i, k < 77 → P k i = rg_P k i) (h : lwS X G E n D) {Z : Nat} (Z6 : Z ≤ 6) (hZ : D 52 1 = (Z : Int)) (hf : ∀ j, j < Z → 0 ≤ D 53 j ∧ D 53 j < 15) (l14 l15 : Int) (d : Nat) : ∃ D' : rf_D, rf_j_L_law_724 (d + 15) 1000000 0 1 (some 78) (n : Int) (Z : Int) l14 l15 (lh P X D) = rf_j_L_law_820 (d + 15) 1000000 0 1 (some 78) (n : Int) (Z : Int) l14 l15 0 (lh P X D') ∧ lwS X G E n D' ∧ D' 52 = D 52 ∧ D' 53 = D 53 := by
  have up := pq_upper (X := X) (D := D) (d + 7)
  rw [rf_e_L_law_724, q_o, q_L (lh_up hP up)]
  split
  · exact lw_740 hP h Z6 hZ hf l14 l15 1 d
  · exact lw_740 hP h Z6 hZ hf l14 l15 0 d
theorem lw_820 (hP : ∀ k i, k < 77 → P k i = rg_P k i) {Z : Nat} (Z6 : Z ≤ 6) {f : Nat → Int} (hf : ∀ j, j < Z → 0 ≤ f j ∧ f j < 15) (l14 l15 : Int) (d : Nat) : ∀ (j k c : Nat) (D : rf_D), k + j = Z → lwG X G E n f k c D → D 52 1 = (Z : Int) → D 53 = f → ∃ (D' : rf_D) (c' : Nat), rf_j_L_law_820 (d + 15) 1000000 0 1 (some 78) (n : Int) (Z : Int) l14 l15 (k : Int) (lh P X D) = rf_j_L_law_820 (d + 15) 1000000 0 1 (some 78) (n : Int) (Z : Int) l14 l15 (Z : Int) (lh P X D') ∧ lwG X G E n f Z c' D'
  | 0, k, c, D, hk, h, hZ, hD => by
    have e : k = Z := by omega
    rw [e] at h ⊢
    exact ⟨D, c, rfl, h⟩
  | j + 1, k, c, D, hk, h, hZ, hD => by
    obtain ⟨q1, q2⟩ := hf k (by omega)
    have a1 := pq_at (X := X) (D := D) (R := 4) (I := k) (by decide) h.2.1.1.1 (by rw [show 44 + 2 * 4 = 52 from rfl, hZ]; omega) (by rw [show 44 + 2 * 4 = 52 from rfl, hZ]; omega) (d + 7)
    rw [show ((4 : Nat) : Int) = 4 from rfl, show 44 + 2 * 4 + 1 = 53 from rfl, hD] at a1
    have G1 := h.tl (f k)
    have a2 := pq_asked (X := X) (D := wtl (f k) D) (d + 7)
    rw [pq_tl] at a2
    obtain ⟨D2, x, c', g1, g2, g3, g4, -, -⟩ := lwG.go hP G1 (by omega) (t := f k) rfl q1 (by omega) (d + 5)
    obtain ⟨D', c2, e1, e2⟩ := lw_820 hP Z6 hf l14 l15 d j (k + 1) c' D2 (by omega) g2 (by rw [g3 52 (by decide) (by decide) (by decide), wtl_n (by decide)]; exact hZ) (by rw [g3 53 (by decide) (by decide) (by decide), wtl_n (by decide)]; exact hD)
    refine ⟨D', c2, ?_, e2⟩
    rw [rf_e_L_law_820, if_pos (by omega), if_neg (by decide), q_o, q_I (lh_up hP a1), if_pos (by first | rfl | trivial), q_o, q_I (lh_up hP a2), q_o, q_I g1, if_neg (Int.not_lt.2 g4), rf_e_L_law_861, xs_1 (show k ≤ 1000 by omega)]
    exact e1
theorem lw_820e (hP : ∀ k i, k < 77 → P k i = rg_P k i) {Z c : Nat} {f : Nat → Int} (h : lwG X G E n f Z c D) (d : Nat) : ∃ D' : rf_D, rf_j_L_law_820 (d + 15) 1000000 0 1 (some 78) (n : Int) (Z : Int) (rn_s (lz X G E n) f Z 35 - lz X G E n 35) (rn_s (lz X G E n) f Z 36) (Z : Int) (lh P X D) = rf_j_L_law_921 (d + 15) 1000000 0 1 (some 78) (n : Int) (lh P X D') ∧ lwS X G E n D' := by
  obtain ⟨s, hs⟩ : ∃ s, s = lz X G E n := ⟨_, rfl⟩
  obtain ⟨u, hu⟩ : ∃ u, u = rn_s s f Z := ⟨_, rfl⟩
  have rs := h.rs
  rw [← hs, ← hu] at rs
  have st := rs.2.2.2.2.2.1.2.2.2.2.2.2.2.2
  have m100 := rs.2.2.2.2.2.2.1
  have en := pq_engine (X := X) rs (d + 7) (w := 9) (by decide) (by decide)
  rw [en_9] at en
  have as := pq_asked (X := X) (D := wtl (u 35) D) (d + 7)
  rw [pq_tl] at as
  have G3 := h.tl (u 35)
  have o8 : wtl (u 35) D 78 8 = s 35 := by
    rw [hs]
    exact G3.2.2.2.2.1 8 (by decide)
  have co := pq_count0 (X := X) (D := wtl (u 35) D) (d + 7)
  have r6 := G3.rs.2.2.2.2.1.2.2.2.2.2
  rw [← hs, ← hu] at r6
  rw [r6] at co
  obtain ⟨D4, w1, w2, -⟩ := lwG.on hP G3 (d + 7)
  have b0 : 0 ≤ s 35 ∧ s 35 ≤ 100 := by
    obtain ⟨⟨ck, kk, n6⟩, hD, h5, h6, h7, h8⟩ := h
    have de : lc_ON (D 78) s := by
      rw [hs]
      exact h7
    have ex : 0 ≤ lz X G E n 35 ∧ lz X G E n 35 ≤ (n : Int) := (sp_ch_st (A := G) (e := E) hD.2.2.2.2.2.1 hD.2.2.2.2.2.2.1 hD.2.2.2.1.2.2.2.1 n (by omega)).1.2.2.2.2.2.2.2.2
    rw [← hs] at ex
    omega
  have ww : u 35 = rf_w (s 35 + (u 35 - s 35)) := by
    rw [show s 35 + (u 35 - s 35) = u 35 by omega, rg_w (by omega) (by omega)]
  refine ⟨D4, ?_, w2⟩
  rw [← hs, ← hu, rf_e_L_law_820, if_neg (by omega), if_neg (by decide), q_o, q_I (lh_up hP en), if_pos (by first | rfl | trivial), q_o, q_I (lh_up hP as), q_n, q_B (lh_aI (by decide) (by decide)), show Int.toNat 8 = 8 from rfl, o8, if_pos ww, q_o, q_I (lh_up hP co), if_pos (by first | rfl | trivial), q_o, q_I w1, if_pos (by first | rfl | trivial)]
end PQN
