/-! The law's body: which steam, given; the grip and the worst minute. -/
section PQM
variable {P : rf_P} {X : rf_X} {D : rf_D} {G E : Nat → Int} {n d : Nat}
theorem lw_366 (hP : ∀ k i, k < 77 → P k i = rg_P k i) (h : lwS X G E n D) (d : Nat) : ∃ D' : rf_D, rf_j_L_law_366 (d + 15) 1000000 0 1 (some 78) (n : Int) (lh P X D) = rf_j_L_law_423 (d + 15) 1000000 0 1 (some 78) (n : Int) (lh P X D') ∧ lwS X G E n D' := by
  obtain ⟨s, hs⟩ : ∃ s, s = lz X G E n := ⟨_, rfl⟩
  have rs := h.rs
  rw [← hs] at rs
  have hd := rs.2.2.1
  have st := rs.2.2.2.2.2.1
  have r02 := sp_rail_02 hd st
  have gb := (sp_gb hd st r02.1 r02.2).2
  obtain ⟨v, e1⟩ := pq_steam (X := X) rs (d + 7)
  have S1 := h.tl v
  have rs1 := S1.rs
  rw [← hs] at rs1
  obtain ⟨g, hg⟩ : ∃ g, g = sp_grip s (sp_rail s) := ⟨_, rfl⟩
  obtain ⟨a, ha⟩ : ∃ a, a = (if g / 2 < 9 then g / 2 else 9) := ⟨_, rfl⟩
  rw [← hg, ← ha] at e1
  rw [← hg] at gb
  have a09 : (0 ≤ a ∧ a ≤ 9) ∧ 2 * a ≤ g ∧ (a = 9 ∨ g < 2 * (a + 1)) := by
    rw [ha]
    split <;> omega
  have w1 := pq_would (X := X) rs1 (d + 7) (a := a) a09.1.1 a09.1.2
  have n1 : ¬ (sp_gives s a (sp_rail s)).1 = 1 := fun z => by
    have := (pq_gv a09.1.1 a09.1.2).2.1 z
    rw [← hg] at this
    omega
  refine ⟨wtl v D, ?_, S1⟩
  rw [rf_e_L_law_366, q_o, q_I (lh_up hP e1), if_neg (by decide), if_neg (Int.not_lt.2 a09.1.1), if_pos (by omega), q_o, q_I (lh_up hP w1), if_neg n1]
  by_cases y : a = 9
  · rw [if_pos y, rf_e_L_law_417]
  · have w2 := pq_would (X := X) rs1 (d + 7) (a := a + 1) (by omega) (by omega)
    have y1 : (sp_gives s (a + 1) (sp_rail s)).1 = 1 := (pq_gv (by omega) (by omega)).2.2 (by rw [← hg]; omega)
    rw [y1] at w2
    rw [if_neg y, rg_w (z := a + 1) (by omega) (by omega), q_o, q_I (lh_up hP w2), if_pos (by first | rfl | trivial), rf_e_L_law_417]
theorem q_p1 {α β : Type} {p : α × β} {x : α} {y : β} (h : p = (x, y)) : p.1 = x := by
  rw [h]
theorem lw_can {s : Nat → Int} {t : Int} (h : t < 10) : sp_can s t = true ↔ ¬ s 27 < t := by
  unfold sp_can
  rw [if_pos h]
  constructor
  · intro z
    have := of_decide_eq_true z
    omega
  · intro z
    exact decide_eq_true (by omega)
theorem lw_423h (hP : ∀ k i, k < 77 → P k i = rg_P k i) {D1 : rf_D} {t x y z : Int} (ht : Int.tmod (lc_cl X 16) 10 = t) (w1 : rf_call (d + 15) 85 [.inr (.inr (some 0)), .inl t] (lh P X D) = some (some (.inl y), lh P X D)) (y0 : 0 ≤ y) (y6 : y < 6) (g1 : rf_call (d + 15) 77 [.inr (.inr (some 0)), .inl t] (lh P X D) = some (some (.inl x), lh P X D1)) (o1 : D1 78 0 = z) (c : (z < t ∧ x = -4) ∨ (¬ z < t ∧ x = y)) : rf_j_L_law_423 (d + 15) 1000000 0 1 (some 78) (n : Int) (lh P X D) = rf_j_L_law_482 (d + 15) 1000000 0 (some 78) (n : Int) t (lh P X D1) := by
  rw [rf_e_L_law_423, q_I (lq_cell (lh_X P X D) (d + 14) (by decide)), ht, q_o, q_I w1, if_neg (by decide), if_neg (Int.not_lt.2 y0), if_pos y6, q_o, q_I g1, q_n, q_B (lh_aI (by decide) (by decide)), show Int.toNat 0 = 0 from rfl, o1]
  rcases c with ⟨c1, c2⟩ | ⟨c1, c2⟩
  · rw [if_pos c1, if_pos c2]
  · rw [if_neg c1, if_pos c2]
theorem lw_482 (hP : ∀ k i, k < 77 → P k i = rg_P k i) {D1 D2 : rf_D} {t c z : Int} (u1 : rf_call (d + 15) 79 [.inr (.inr (some 0)), .inl (n : Int)] (lh P X D1) = some (some (.inl c), lh P X D2)) (o2 : D2 78 0 = z) (cc : (z < t ∧ c = 0) ∨ (¬ z < t ∧ c = 1)) : rf_j_L_law_482 (d + 15) 1000000 0 (some 78) (n : Int) t (lh P X D1) = rf_j_L_law_510 (d + 15) 1000000 0 1 (some 78) (n : Int) (lh P X D2) := by
  rw [rf_e_L_law_482, q_o, q_I u1, q_n, q_B (lh_aI (by decide) (by decide)), show Int.toNat 0 = 0 from rfl, o2]
  rcases cc with ⟨c1, c2⟩ | ⟨c1, c2⟩
  · rw [if_pos c1, if_pos c2, rf_e_L_law_504]
  · rw [if_neg c1, if_pos c2, rf_e_L_law_504]
theorem lw_423 (hP : ∀ k i, k < 77 → P k i = rg_P k i) (n6 : n ≤ 6) (h : lwS X G E n D) (d : Nat) : ∃ D' : rf_D, rf_j_L_law_423 (d + 15) 1000000 0 1 (some 78) (n : Int) (lh P X D) = rf_j_L_law_510 (d + 15) 1000000 0 1 (some 78) (n : Int) (lh P X D') ∧ lwS X G E n D' := by
  obtain ⟨t, ht, t10⟩ := lw_m X 16 (y := 10) (by decide)
  obtain ⟨s, hs⟩ : ∃ s, s = lz X G E n := ⟨_, rfl⟩
  have rs := h.rs
  rw [← hs] at rs
  have w1 := pq_would (X := X) rs (d + 7) (a := (t : Int)) (by omega) (by omega)
  have gv := (pq_gv (s := s) (st := (t : Int)) (r := sp_rail s) (by omega) (by omega)).1
  obtain ⟨D1, x, c, g1, g2, g3, g4, g5, g6⟩ := lwG.go hP (h.g n6 (fun _ => (t : Int))) (by omega) (t := (t : Int)) rfl (by omega) (by omega) (d + 5)
  have r0 : rn_s (lz X G E n) (fun _ => (t : Int)) 0 = s := hs.symm
  rw [r0, lw_can (by omega)] at g5 g6
  obtain ⟨D2, u1, u2, u3⟩ := lwG.undo hP g2 (d + 7)
  have o1 : D1 78 0 = s 27 := by
    rw [hs]
    exact g2.2.2.2.2.1 0 (by decide)
  have o2 : D2 78 0 = s 27 := by
    rw [hs]
    exact u2.2.2.2 0 (by decide)
  refine ⟨D2, ?_, u2⟩
  refine (lw_423h hP ht (lh_up hP w1) gv.1 (by omega) g1 o1 ?_).trans (lw_482 hP u1 o2 ?_)
  · by_cases y : s 27 < (t : Int)
    · exact Or.inl ⟨y, (g6 (fun z => z y)).2⟩
    · have z2 := (g5 y).2.1
      have z3 : (sp_does s (t : Int) (sp_rail s)).1 = (sp_gives s (t : Int) (sp_rail s)).1 := q_p1 (sp_does_lt (by omega))
      exact Or.inr ⟨y, z2.trans z3⟩
  · by_cases y : s 27 < (t : Int)
    · exact Or.inl ⟨y, by rw [(g6 (fun z => z y)).1]; rfl⟩
    · exact Or.inr ⟨y, by rw [(g5 y).1]; rfl⟩
theorem lw_510 (hP : ∀ k i, k < 77 → P k i = rg_P k i) (hA : lc_AX X G) (n6 : n ≤ 6) (h : lwS X G E n D) (d : Nat) : ∃ D' : rf_D, rf_j_L_law_510 (d + 15) 1000000 0 1 (some 78) (n : Int) (lh P X D) = rf_j_L_law_564 (d + 15) 1000000 0 1 (some 78) (n : Int) (lh P X D') ∧ lwS X G E n D' := by
  obtain ⟨s, hs⟩ : ∃ s, s = lz X G E n := ⟨_, rfl⟩
  have rs := h.rs
  rw [← hs] at rs
  have hd := rs.2.2.1
  have st := rs.2.2.2.2.2.1
  have r6 := lc_rs_b X
  have s2 : s 2 = lc_rs X := by
    rw [hs]
    exact (sp_ch_hd n 2 (by decide)).trans hA.2.2.1
  obtain ⟨N, hN⟩ := Int.eq_ofNat_of_zero_le (show 0 ≤ lc_rs X - 1 by omega)
  have r0 := ba_0 hd st
  obtain ⟨v, e1⟩ := pq_grip (X := X) rs (d + 7)
  have S1 := h.tl v
  have rs1 := S1.rs
  rw [← hs] at rs1
  have e2 := pq_bad (X := X) rs1 (d + 7) (N := N) (by omega)
  have S2 := S1.tl (ba_v s N).1
  have e3 := pq_asked (X := X) (D := wtl (ba_v s N).1 (wtl v D)) (d + 7)
  rw [pq_tl] at e3
  have o7 : wtl (ba_v s N).1 (wtl v D) 78 7 = s 34 := by
    rw [hs]
    exact S2.2.2.2 7 (by decide)
  obtain ⟨b1, b2, b3⟩ := pq_ba (s := s) N
  rw [← r0] at b1
  have b34 := st.2.2.2.2.2.2.2.1
  refine ⟨_, ?_, S2⟩
  rw [rf_e_L_law_510, q_o, q_I (lh_up hP e1), q_o, q_I (lh_up hP e2), if_neg (by decide), q_o, q_I (lh_up hP e3), if_neg (Int.not_lt.2 b1), q_n, q_B (lh_aI (by decide) (by decide)), show Int.toNat 7 = 7 from rfl, o7, if_neg (Int.not_lt.2 b2), q_n, q_B (lh_aI (by decide) (by decide)), show Int.toNat 7 = 7 from rfl, o7, q_I (lq_rails (lh_X P X _) (d + 13)), rg_w (z := s 34 + lc_rs X) (by omega) (by omega), if_pos (by omega)]
end PQM
