/-! The law's body: kept; the shortest, the ways; what stays. -/
section PQK
variable {P : rf_P} {X : rf_X} {D : rf_D} {G E : Nat → Int} {n : Nat}
theorem lw_m (X : rf_X) (k : Int) {y : Int} (hy : 1 ≤ y) : ∃ t : Nat, Int.tmod (lc_cl X k) y = (t : Int) ∧ (t : Int) < y := by
  have b := pq_tm (x := lc_cl X k) (y := y) (lc_cl_b X k).1 hy
  generalize Int.tmod (lc_cl X k) y = z at b ⊢
  exact ⟨z.toNat, by omega, by omega⟩
theorem lw_49 (hP : ∀ k i, k < 77 → P k i = rg_P k i) (hD : pq_DS D G (lc_fi X 1) (lc_fi X 2) (lc_ws X) n) (hO : lc_ON (D 78) (sp_ch G (D 5) (lc_fi X 1) (lc_fi X 2) (lc_ws X) n)) (d : Nat) : ∃ D' : rf_D, rf_j_L_law_49 (d + 15) 1000000 0 1 (some 78) (lh P X D) = rf_j_L_law_76 (d + 15) 1000000 0 1 (some 78) (n : Int) (lh P X D') ∧ lwS X G (D 5) n D' := by
  have c2 := pq_count2 (X := X) (D := D) (d + 7)
  have hn : D 4 1 = (n : Int) := hD.2.2.2.2.2.2.2.1
  rw [hn] at c2
  obtain ⟨D', e1, e2, e3, e4⟩ := pq_keep (X := X) hD (d + 7)
  have e : ∀ k, k ≠ 68 → k ≠ 69 → D' k = D k := e2
  refine ⟨D', ?_, hD.of (fun k hk => e k (by omega) (by omega)) (by rw [e 0 (by decide) (by decide)]), fun j hj => by rw [e 5 (by decide) (by decide)], ⟨e3, e4⟩, ?_⟩
  · rw [rf_e_L_law_49, q_o, q_I (lh_up hP c2), if_neg (by decide), q_o, q_I (lh_up hP e1), if_pos (by first | rfl | trivial)]
  · rw [e 78 (by decide) (by decide)]
    exact hO
/-- what the shortest told -/
def lwC (s : Nat → Int) (L : Nat) (l6 : Int) : Prop := (l6 = -9 ∧ ∀ i, 1 ≤ i → i ≤ L → pn_fx (s 35) i s = none) ∨ ∃ (J : Nat) (l : List Int), l6 = (J : Int) ∧ (1 ≤ J ∧ J ≤ L) ∧ pn_fx (s 35) J s = some l ∧ ∀ i, 1 ≤ i → i < J → pn_fx (s 35) i s = none
def lwF (s : Nat → Int) (l6 : Int) (D : rf_D) : Prop := ∀ J : Nat, l6 = (J : Int) → D 50 1 = (J : Int) ∧ ∃ l, pn_fx (s 35) J s = some l ∧ ∀ (q : Nat) (v : Int), l[q]? = some v → D 51 q = v
theorem lwF.fq {s : Nat → Int} {l6 : Int} {D' : rf_D} (h : lwF s l6 D) (g : pq_FQ D D') : lwF s l6 D' := fun J hJ => by
  rw [g.1 50 (by decide) (by decide) (by decide) (by decide), g.1 51 (by decide) (by decide) (by decide) (by decide)]
  exact h J hJ
theorem lw_140 (hP : ∀ k i, k < 77 → P k i = rg_P k i) (h : lwS X G E n D) {L l6 l7 : Int} (h7 : l7 ≤ lz X G E n 36) (d : Nat) : rf_j_L_law_140 (d + 15) 1000000 0 (some 78) (n : Int) L l6 l7 (lh P X D) = rf_j_L_law_168 (d + 15) 1000000 0 1 (some 78) (n : Int) L l6 1 (lh P X D) := by
  have c2 := pq_count2 (X := X) (D := D) (d + 7)
  have hn : D 4 1 = (n : Int) := h.1.2.2.2.2.2.2.2.1
  have o9 : D 78 9 = lz X G E n 36 := h.2.2.2 9 (by decide)
  rw [hn] at c2
  rw [rf_e_L_law_140, q_n, q_B (lh_aI (by decide) (by decide)), show Int.toNat 9 = 9 from rfl, o9, if_neg (Int.not_lt.2 h7), q_o, q_I (lh_up hP c2), if_pos (by first | rfl | trivial), rf_e_L_law_165]
theorem lw_76 (hP : ∀ k i, k < 77 → P k i = rg_P k i) (h : lwS X G E n D) (d : Nat) : ∃ (D' : rf_D) (L : Nat) (l6 : Int), rf_j_L_law_76 (d + 15) 1000000 0 1 (some 78) (n : Int) (lh P X D) = rf_j_L_law_168 (d + 15) 1000000 0 1 (some 78) (n : Int) (L : Int) l6 1 (lh P X D') ∧ lwS X G E n D' ∧ (1 ≤ L ∧ L ≤ 3) ∧ lwC (lz X G E n) L l6 ∧ lwF (lz X G E n) l6 D' := by
  obtain ⟨t, ht, t3⟩ := lw_m X 15 (y := 3) (by decide)
  obtain ⟨L, hL⟩ : ∃ L : Nat, L = 1 + t := ⟨_, rfl⟩
  have eL : rf_w (1 + Int.tmod (lc_cl X 15) 3) = (L : Int) := by
    rw [ht, rg_w (by omega) (by omega)]
    omega
  obtain ⟨s, hs⟩ : ∃ s, s = lz X G E n := ⟨_, rfl⟩
  have rs := h.rs
  rw [← hs] at rs
  have st := rs.2.2.2.2.2.1
  obtain ⟨N, hN⟩ := Int.eq_ofNat_of_zero_le (show 0 ≤ s 36 by have := st.2.2.2.2.2.2.1; omega)
  obtain ⟨D1, s1, s2, s3, s4⟩ := pq_shortest (X := X) rs (R := 3) (n := L) (by decide) (by omega) d
  rw [show ((3 : Nat) : Int) = 3 from rfl] at s3 s4
  rw [show 44 + 2 * 3 + 1 = 51 from rfl, show 44 + 2 * 3 = 50 from rfl] at s4
  have S1 : lwS X G E n D1 := h.of (fun k hk => s1 k (by omega) (by omega) (by omega) (by omega) (by omega)) (by rw [s2])
  have rs1 := S1.rs
  rw [← hs] at rs1
  obtain ⟨D2, y1, y2⟩ := pq_stay (X := X) rs1 (n := L) (by omega) hN d
  have S2 := S1.fq y2
  have sb := pq_sa_b (A := s) (n := L) (N + 1) 0
  cases hq : sh_v s L 1 with
  | none =>
    obtain ⟨e1, e2⟩ := s3 hq
    have no := pq_sh_no L 1 hq
    refine ⟨D2, L, -9, ?_, S2, ⟨by omega, by omega⟩, ?_, fun J hJ => by omega⟩
    · rw [rf_e_L_law_76, q_I (lq_cell (lh_X P X D) (d + 14) (by decide)), eL, q_o, q_I (lh_up hP e1), q_o, q_I (lh_up hP y1), if_neg (by decide), if_pos (by first | rfl | trivial), rf_e_L_law_128, if_pos (by first | rfl | trivial)]
      exact lw_140 hP S2 (by rw [← hs]; omega) d
    · rw [← hs]
      exact Or.inl ⟨rfl, fun i i1 i2 => no i i1 (by omega)⟩
  | some r =>
    obtain ⟨J, l⟩ := r
    obtain ⟨e1, e2, e3⟩ := s4 J l hq
    have b := sh_len L 1 J l hq
    obtain ⟨f1, f2⟩ := pq_sh_fx L 1 J l hq
    have s0 := pq_sa_0 (A := s) (n := L) (c := N) (by have := st.2.2.2.2.2.2.1; omega) f1 (by omega) (by omega)
    refine ⟨D2, L, (J : Int), ?_, S2, ⟨by omega, by omega⟩, ?_, lwF.fq (fun I hI => ?_) y2⟩
    · rw [s0] at y1
      rw [rf_e_L_law_76, q_I (lq_cell (lh_X P X D) (d + 14) (by decide)), eL, q_o, q_I (lh_up hP e1), q_o, q_I (lh_up hP y1), if_neg (by decide), if_neg (by omega), if_pos (by omega), if_neg (by omega), rf_e_L_law_128, if_neg (by omega), if_pos (by first | rfl | trivial)]
      exact lw_140 hP S2 (by rw [← hs]; omega) d
    · rw [← hs]
      exact Or.inr ⟨J, l, rfl, ⟨by omega, by omega⟩, f1, fun i i1 i2 => f2 i i1 i2⟩
    · have e : I = J := by omega
      rw [e, ← hs]
      exact ⟨e2, l, f1, e3⟩
theorem lw_168 (hP : ∀ k i, k < 77 → P k i = rg_P k i) {L : Nat} {l6 : Int} (L3 : L ≤ 3) (hc : lwC (lz X G E n) L l6) (d : Nat) : ∀ (k i : Nat) (D : rf_D), i + k = L + 1 → 1 ≤ i → lwS X G E n D → lwF (lz X G E n) l6 D → ∃ D' : rf_D, rf_j_L_law_168 (d + 15) 1000000 0 1 (some 78) (n : Int) (L : Int) l6 (i : Int) (lh P X D) = rf_j_L_law_168 (d + 15) 1000000 0 1 (some 78) (n : Int) (L : Int) l6 ((L + 1 : Nat) : Int) (lh P X D') ∧ lwS X G E n D' ∧ lwF (lz X G E n) l6 D'
  | 0, i, D, hk, i1, h, hF => by
    have e : i = L + 1 := by omega
    rw [e]
    exact ⟨D, rfl, h, hF⟩
  | k + 1, i, D, hk, i1, h, hF => by
    obtain ⟨s, hs⟩ : ∃ s, s = lz X G E n := ⟨_, rfl⟩
    have rs := h.rs
    rw [← hs] at rs hc
    obtain ⟨D1, w1, w2, w3⟩ := pq_ways (X := X) rs (n := i) (by omega) d
    have as := pq_asked (X := X) (D := D1) (d + 7)
    rw [w3] at as
    have b1 := (pn_ct_b (g := s 35) i s).1
    have b2 := (pn_cn_b (g := s 35) i s).1
    have b3 := pq_cn_ct (g := s 35) i s
    have b4 := pq_ct_fx (g := s 35) i s
    have nx : rf_j_L_law_241 (d + 15) 1000000 0 (some 78) (n : Int) (L : Int) l6 (i : Int) (lh P X D1) = rf_j_L_law_168 (d + 15) 1000000 0 1 (some 78) (n : Int) (L : Int) l6 ((i + 1 : Nat) : Int) (lh P X D1) := by
      rw [rf_e_L_law_241, rf_e_L_law_247, xs_1 (show i ≤ 1000 by omega)]
    obtain ⟨D', e1, e2, e3⟩ := lw_168 hP L3 (by rw [← hs]; exact hc) d k (i + 1) D1 (by omega) (by omega) (h.fq w2) (hF.fq w2)
    refine ⟨D', ?_, e2, e3⟩
    rw [rf_e_L_law_168, if_neg (by omega), q_o, q_I (lh_up hP w1), q_o, q_I (lh_up hP as), if_neg (by decide), if_neg (Int.not_lt.2 b1), if_neg (Int.not_lt.2 b2), if_neg (Int.not_lt.2 b3)]
    rcases hc with ⟨c1, c2⟩ | ⟨J, l, c1, ⟨c2, c3⟩, c4, c5⟩
    · have z := b4.2 (c2 i i1 (by omega))
      rw [if_pos c1, rf_e_L_law_224, if_pos z, rf_e_L_law_229, if_neg (by omega), nx]
      exact e1
    · rw [if_neg (by omega)]
      by_cases y : i < J
      · have z := b4.2 (c5 i i1 y)
        rw [if_pos (by omega), rf_e_L_law_224, if_pos z, rf_e_L_law_229, if_neg (by omega), nx]
        exact e1
      · rw [if_neg (by omega), rf_e_L_law_229]
        by_cases y2 : i = J
        · have z : ¬ pn_ct (s 35) i s = 0 := fun z => by
            have := b4.1 z
            rw [y2, c4] at this
            exact absurd this (by intro h; cases h)
          rw [if_pos (by omega), if_pos (Int.lt_iff_le_and_ne.2 ⟨b1, fun h => z h.symm⟩), nx]
          exact e1
        · rw [if_neg (by omega), nx]
          exact e1
theorem en_9 (A : Nat → Int) : en_v A 9 = A 35 := by
  unfold en_v
  rw [if_neg (by decide), if_neg (by decide), if_neg (by decide), if_neg (by decide), if_neg (by decide), if_neg (by decide), if_neg (by decide), if_neg (by decide), if_neg (by decide)]
theorem lw_279 (hP : ∀ k i, k < 77 → P k i = rg_P k i) {J : Nat} (J3 : J ≤ 3) {f : Nat → Int} (hf : ∀ q, q < J → (0 ≤ f q ∧ f q ≤ 14) ∧ sp_can (rn_s (lz X G E n) f q) (f q) = true) (d : Nat) : ∀ (j k : Nat) (D : rf_D), k + j = J → lwG X G E n f k k D → D 50 1 = (J : Int) → D 51 = f → ∃ D' : rf_D, rf_j_L_law_279 (d + 15) 1000000 0 1 (some 78) (n : Int) (J : Int) (k : Int) (lh P X D) = rf_j_L_law_279 (d + 15) 1000000 0 1 (some 78) (n : Int) (J : Int) (J : Int) (lh P X D') ∧ lwG X G E n f J J D'
  | 0, k, D, hk, h, hZ, hD => by
    have e : k = J := by omega
    rw [e] at h ⊢
    exact ⟨D, rfl, h⟩
  | j + 1, k, D, hk, h, hZ, hD => by
    obtain ⟨q1, q2⟩ := hf k (by omega)
    have a1 := pq_at (X := X) (D := D) (R := 3) (I := k) (by decide) h.2.1.1.1 (by rw [show 44 + 2 * 3 = 50 from rfl, hZ]; omega) (by rw [show 44 + 2 * 3 = 50 from rfl, hZ]; omega) (d + 7)
    rw [show ((3 : Nat) : Int) = 3 from rfl, show 44 + 2 * 3 + 1 = 51 from rfl, hD] at a1
    have G1 := h.tl (f k)
    have a2 := pq_asked (X := X) (D := wtl (f k) D) (d + 7)
    rw [pq_tl] at a2
    obtain ⟨D2, x, c', g1, g2, g3, g4, g5, g6⟩ := lwG.go hP G1 (by omega) (t := f k) rfl q1.1 q1.2 (d + 5)
    obtain ⟨g7, g8, g9⟩ := g5 q2
    rw [g7] at g2
    obtain ⟨D', e1, e2⟩ := lw_279 hP J3 hf d j (k + 1) D2 (by omega) g2 (by rw [g3 50 (by decide) (by decide) (by decide), wtl_n (by decide)]; exact hZ) (by rw [g3 51 (by decide) (by decide) (by decide), wtl_n (by decide)]; exact hD)
    refine ⟨D', ?_, e2⟩
    rw [rf_e_L_law_279, if_pos (by omega), if_neg (by decide), q_o, q_I (lh_up hP a1), if_pos (by first | rfl | trivial), q_o, q_I (lh_up hP a2), q_o, q_I g1, if_neg (by omega), rf_e_L_law_318, xs_1 (show k ≤ 1000 by omega)]
    exact e1
theorem lw_168e (hP : ∀ k i, k < 77 → P k i = rg_P k i) {L : Nat} {l6 : Int} (L3 : L ≤ 3) (n6 : n ≤ 6) (hc : lwC (lz X G E n) L l6) (h : lwS X G E n D) (hF : lwF (lz X G E n) l6 D) (d : Nat) : ∃ D' : rf_D, rf_j_L_law_168 (d + 15) 1000000 0 1 (some 78) (n : Int) (L : Int) l6 ((L + 1 : Nat) : Int) (lh P X D) = rf_j_L_law_366 (d + 15) 1000000 0 1 (some 78) (n : Int) (lh P X D') ∧ lwS X G E n D' := by
  rcases hc with ⟨c1, -⟩ | ⟨J, -, c1, ⟨c2, c3⟩, -, -⟩
  · refine ⟨D, ?_, h⟩
    rw [rf_e_L_law_168, if_pos (by omega), if_neg (by omega)]
  · obtain ⟨s, hs⟩ : ∃ s, s = lz X G E n := ⟨_, rfl⟩
    obtain ⟨hZ, l, f1, f2⟩ := hF J c1
    rw [← hs] at f1
    have rs := h.rs
    rw [← hs] at rs
    obtain ⟨f, hf⟩ : ∃ f, f = D 51 := ⟨_, rfl⟩
    rw [← hf] at f2
    obtain ⟨r1, r2⟩ := pq_rn_fx (s := s) (f := f) J 0 l f1 (fun q v e => by rw [Nat.zero_add]; exact f2 q v e)
    rw [Nat.zero_add] at r1
    have r3 : ∀ q, q < J → (0 ≤ f q ∧ f q ≤ 14) ∧ sp_can (rn_s s f q) (f q) = true := fun q hq => by
      have e := r2 q hq
      rw [Nat.zero_add] at e
      exact e
    obtain ⟨D1, u1, u2, u3⟩ := pq_run (X := X) rs (R := 3) (Z := J) (by decide) hZ (by omega) (fun j hj => by
      rw [show 44 + 2 * 3 + 1 = 51 from rfl, ← hf]
      have := (r3 j hj).1
      omega) (d + 7)
    rw [show ((3 : Nat) : Int) = 3 from rfl, show 44 + 2 * 3 + 1 = 51 from rfl, ← hf] at u1
    have S1 := h.fq u2
    obtain ⟨D2, v1, v2⟩ := lw_279 hP (J := J) (by omega) (by rw [← hs]; exact r3) d J 0 D1 (by omega) (S1.g n6 f) (by rw [u2.1 50 (by decide) (by decide) (by decide) (by decide)]; exact hZ) (by rw [u2.1 51 (by decide) (by decide) (by decide) (by decide)]; exact hf.symm)
    have v1 : rf_j_L_law_279 (d + 15) 1000000 0 1 (some 78) (n : Int) (J : Int) 0 (lh P X D1) = _ := v1
    have rs2 := v2.rs
    rw [← hs] at rs2
    have en := pq_engine (X := X) rs2 (d + 7) (w := 9) (by decide) (by decide)
    rw [en_9] at en
    have as := pq_asked (X := X) (D := wtl (rn_s s f J 35) D2) (d + 7)
    rw [pq_tl] at as
    have G3 := v2.tl (rn_s s f J 35)
    have o8 : wtl (rn_s s f J 35) D2 78 8 = s 35 := by
      rw [hs]
      exact G3.2.2.2.2.1 8 (by decide)
    obtain ⟨D4, w1, w2, -⟩ := lwG.undo hP G3 (d + 7)
    refine ⟨D4, ?_, w2⟩
    rw [rf_e_L_law_168, if_pos (by omega), if_pos (by omega), if_neg (by decide), q_o, q_I (lh_up hP u1), if_pos (by omega), rf_e_L_law_276, c1, v1, rf_e_L_law_279, if_neg (by omega), if_neg (by decide), q_o, q_I (lh_up hP en), if_pos (by first | rfl | trivial), q_o, q_I (lh_up hP as), q_n, q_B (lh_aI (by decide) (by decide)), show Int.toNat 8 = 8 from rfl, o8, if_pos r1, q_o, q_I w1, if_pos (by first | rfl | trivial)]
end PQK
