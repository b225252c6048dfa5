/-! The law's body: undone and gone on from; its answer. -/
section PQOc
variable {P : rf_P} {X : rf_X} {D : rf_D} {G E : Nat → Int} {n d : Nat}
theorem en_1 (A : Nat → Int) : en_v A 1 = A 27 := by
  unfold en_v
  rw [if_neg (by decide), if_pos (by decide)]
theorem en_7 (A : Nat → Int) : en_v A 7 = A 33 := by
  unfold en_v
  rw [if_neg (by decide), if_neg (by decide), if_neg (by decide), if_neg (by decide), if_neg (by decide), if_neg (by decide), if_neg (by decide), if_pos (by decide)]
theorem en_8 (A : Nat → Int) : en_v A 8 = A 34 := by
  unfold en_v
  rw [if_neg (by decide), if_neg (by decide), if_neg (by decide), if_neg (by decide), if_neg (by decide), if_neg (by decide), if_neg (by decide), if_neg (by decide), if_pos (by decide)]
/-- a fact of the engine, asked -/
theorem lw_en (hP : ∀ k i, k < 77 → P k i = rg_P k i) {s : Nat → Int} {W m : Int} (h : pq_RS D s W m) {w v : Int} (w0 : 0 ≤ w) (w9 : w ≤ 9) (hv : en_v s w = v) (d : Nat) : rf_call (d + 8) 75 [.inr (.inr (some 0)), .inl w] (lh P X D) = some (some (.inl 1), lh P X (wtl v D)) ∧ rf_call (d + 8) 105 [.inr (.inr (some 0))] (lh P X (wtl v D)) = some (some (.inl v), lh P X (wtl v D)) ∧ pq_RS (wtl v D) s W m := by
  have en := pq_engine (X := X) h d w0 w9
  rw [hv] at en
  have as := pq_asked (X := X) (D := wtl v D) d
  rw [pq_tl] at as
  exact ⟨lh_up hP en, lh_up hP as, h.fq ((pq_FQ.rf D).tl v)⟩
theorem lw_1240 (hP : ∀ k i, k < 77 → P k i = rg_P k i) (h : lwS X G E n D) (d : Nat) : ∃ D' : rf_D, rf_j_L_law_1240 (d + 15) 1000000 0 1 (some 78) (n : Int) (lh P X D) = some (some (.inl 1), lh P X D') := by
  have c2 := pq_count2 (X := X) (D := D) (d + 7)
  have hn : D 4 1 = (n : Int) := h.1.2.2.2.2.2.2.2.1
  rw [hn] at c2
  have de : DE (D 5) n := h.1.2.2.2.2.2.2.2.2.1
  have hE : DE E n := ⟨de.1, fun j hj => by rw [← h.2.1 j hj]; exact de.2 j hj⟩
  obtain ⟨D1, u1, u2, u3⟩ := pq_undo (X := X) h.1 (k := 0) (Nat.zero_le n) (d + 7)
  rw [show ((0 : Nat) : Int) = 0 from rfl, Int.sub_zero] at u1
  have c3 := pq_count2 (X := X) (D := D1) (d + 7)
  have hn1 : D1 4 1 = 0 := u2.2.2.2.2.2.2.2.1
  rw [hn1] at c3
  obtain ⟨b, hb⟩ : ∃ b, b = sp_ch G (D1 5) (lc_fi X 1) (lc_fi X 2) (lc_ws X) 0 := ⟨_, rfl⟩
  have r1 := u2.rs
  rw [← hb] at r1
  have b33 : en_v b 7 = 0 := by rw [en_7, hb]; rfl
  have b34 : en_v b 8 = 0 := by rw [en_8, hb]; rfl
  have b27 : en_v b 1 = lc_fi X 1 := by rw [en_1, hb]; rfl
  have b36 : b 36 = lc_ws X := by rw [hb]; rfl
  obtain ⟨e1, a1, r2⟩ := lw_en hP r1 (w := 7) (by decide) (by decide) b33 (d + 7)
  obtain ⟨e2, a2, r3⟩ := lw_en hP r2 (w := 8) (by decide) (by decide) b34 (d + 7)
  obtain ⟨e3, a3, r4⟩ := lw_en hP r3 (w := 1) (by decide) (by decide) b27 (d + 7)
  obtain ⟨D4, hD4⟩ : ∃ D4, D4 = wtl (lc_fi X 1) (wtl 0 (wtl 0 D1)) := ⟨_, rfl⟩
  rw [← hD4] at e3 a3 r4
  have n4 : ∀ a, a ≠ 0 → D4 a = D1 a := fun a y => by rw [hD4, wtl_n y, wtl_n y, wtl_n y]
  have co := pq_count0 (X := X) (D := D4) (d + 7)
  have r6 : D4 43 6 = b 36 := r4.2.2.2.2.1.2.2.2.2.2
  rw [r6, b36] at co
  have DS4 : pq_DS D4 G (lc_fi X 1) (lc_fi X 2) (lc_ws X) 0 := u2.of (fun k hk => n4 k (by omega)) (r4.2.1.trans u2.2.1.symm)
  obtain ⟨D5, o1, o2, -⟩ := lw_on (n := n) (E := E) hP DS4 hE ⟨by rw [n4 68 (by decide), u3 68 (by decide) (by decide)]; exact h.2.2.1.1, fun j hj => by rw [n4 69 (by decide), u3 69 (by decide) (by decide)]; exact h.2.2.1.2 j hj⟩ (by rw [n4 78 (by decide), u3 78 (by decide) (by decide)]; exact h.2.2.2) (d + 7)
  obtain ⟨e5, a5, r5⟩ := lw_en hP o2.rs (w := 8) (by decide) (by decide) (en_8 _) (d + 7)
  have o7 : wtl (lz X G E n 34) D5 78 7 = lz X G E n 34 := (o2.tl _).2.2.2 7 (by decide)
  refine ⟨wtl (lz X G E n 34) D5, ?_⟩
  rw [rf_e_L_law_1240, if_neg (by decide), q_o, q_I (lh_up hP c2), if_pos (by first | rfl | trivial), q_o, q_I (lh_up hP u1), if_pos (by first | rfl | trivial), q_o, q_I (lh_up hP c3), if_pos (by first | rfl | trivial), q_o, q_I e1, if_pos (by first | rfl | trivial), q_o, q_I a1, if_pos (by first | rfl | trivial), q_o, q_I e2, if_pos (by first | rfl | trivial), q_o, q_I a2, if_pos (by first | rfl | trivial), q_o, q_I e3, if_pos (by first | rfl | trivial), q_o, q_I a3, q_I (lq_first (lh_X P X D4) (d + 13) 1), if_pos (by first | rfl | trivial), q_o, q_I (lh_up hP co), q_I (lq_wagons (lh_X P X D4) (d + 13)), if_pos (by first | rfl | trivial), q_o, q_I o1, if_pos (by first | rfl | trivial), q_o, q_I e5, if_pos (by first | rfl | trivial), q_o, q_I a5, q_n, q_B (lh_aI (by decide) (by decide)), show Int.toNat 7 = 7 from rfl, o7, if_pos (by first | rfl | trivial)]
/-- the law's answer, from its first question on -/
theorem lw_all (hX : XL X) (hS : pq_TS D) (d : Nat) : ∃ (P' : rf_P) (D' : rf_D), rf_j_L_law_8 (d + 15) 1000000 0 (hp X D) = some (some (.inl 1), lh P' X D') := by
  obtain ⟨P1, D1, G, t1, t2, t3, t4⟩ := lq_tells hX hS (d + 5)
  obtain ⟨P2, D2, b1, b2, b3, b4⟩ := lq_begins (X := X) (D := D1) t2 (d + 5) G
  have S2 : pq_DS D2 G (lc_fi X 1) (lc_fi X 2) (lc_ws X) 0 := t3.of (fun k hk => b3 k (by omega)) (by rw [b3 0 (by decide)])
  obtain ⟨M, hM, M5⟩ := lw_m X 9 (y := 5) (by decide)
  obtain ⟨D3, n, p1, p2, p3, p4, -⟩ := lq_passes_6 b2 t4 (Int.le_refl (lc_ws X)) (d + 4) (M := M) (by omega) M 0 0 D2 (by omega) (Nat.le_refl 0) S2 b4
  have p1 : rf_j_L_passes_6 (d + 14) 0 1000000 78 10 (M : Int) 1 0 (lh P2 X D2) = some (some (.inl 1), lh P2 X D3) := p1
  have n4 : n ≤ 4 := by omega
  have pa : rf_call (d + 15) 132 [.inr (.inr (some 0)), .inr (.inr (some 1000000)), .inr (.inr (some 78)), .inl 10, .inl (M : Int)] (lh P2 X D2) = some (some (.inl 1), lh P2 X D3) := by
    rw [rf_e_L_passes]
    exact p1
  obtain ⟨D4, e4, s4⟩ := lw_49 b2 p3 p4 d
  obtain ⟨D5, L, l6, e5, s5, ⟨L1, L3⟩, c5, f5⟩ := lw_76 b2 s4 d
  obtain ⟨D6, e6, s6, f6⟩ := lw_168 b2 L3 c5 d L 1 D5 (by omega) (Nat.le_refl 1) s5 f5
  have e6 : rf_j_L_law_168 (d + 15) 1000000 0 1 (some 78) (n : Int) (L : Int) l6 1 (lh P2 X D5) = _ := e6
  obtain ⟨D7, e7, s7⟩ := lw_168e b2 L3 (by omega) c5 s6 f6 d
  obtain ⟨D8, e8, s8⟩ := lw_366 b2 s7 d
  obtain ⟨D9, e9, s9⟩ := lw_423 b2 (by omega) s8 d
  obtain ⟨E0, f0, g0⟩ := lw_510 b2 t4 (by omega) s9 d
  obtain ⟨E1, Z, f1, g1, Z6, h1, i1⟩ := lw_564 b2 g0 d
  obtain ⟨E2, f2, g2, h2, i2⟩ := lw_600e b2 g1 Z6 h1 i1 d
  obtain ⟨E3, f3, g3, h3, i3⟩ := lw_724 b2 g2 Z6 (by rw [h2]; exact h1) (by rw [i2]; exact i1) (rn_s (lz X G (D3 5) n) (E1 53) Z 35 - lz X G (D3 5) n 35) (rn_s (lz X G (D3 5) n) (E1 53) Z 36) d
  obtain ⟨E4, c, f4, g4⟩ := lw_820 b2 Z6 (f := E1 53) i1 (rn_s (lz X G (D3 5) n) (E1 53) Z 35 - lz X G (D3 5) n 35) (rn_s (lz X G (D3 5) n) (E1 53) Z 36) d Z 0 0 E3 (by omega) (g3.g (by omega) (E1 53)) (by rw [h3, h2]; exact h1) (by rw [i3, i2])
  have f4 : rf_j_L_law_820 (d + 15) 1000000 0 1 (some 78) (n : Int) (Z : Int) (rn_s (lz X G (D3 5) n) (E1 53) Z 35 - lz X G (D3 5) n 35) (rn_s (lz X G (D3 5) n) (E1 53) Z 36) 0 (lh P2 X E3) = _ := f4
  obtain ⟨E5, f5', g5⟩ := lw_820e b2 g4 d
  obtain ⟨E6, T, f6', g6, T7, h6, i6⟩ := lw_921 b2 g5 d
  obtain ⟨E7, set, f7, g7, h7, i7⟩ := lw_961e b2 g6 T7 h6 i6 d
  obtain ⟨E8, f8, g8⟩ := lw_1144 b2 g7 h7 i7 d
  obtain ⟨E9, f9⟩ := lw_1240 b2 g8 d
  refine ⟨P2, E9, ?_⟩
  rw [rf_e_L_law_8, q_I t1, q_R b1, if_neg (by decide), q_I (lq_cell (lh_X P2 X D2) (d + 14) (by decide)), hM, q_I pa, if_neg (by decide), e4, e5, e6, e7, e8, e9, f0, f1, f2, f3, f4, f5', f6', f7, f8, f9]
end PQOc
