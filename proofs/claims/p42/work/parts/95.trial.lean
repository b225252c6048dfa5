/-! The law's body: the weights and the trial. -/
section PQOb
variable {P : rf_P} {X : rf_X} {D : rf_D} {G E : Nat → Int} {n d : Nat}
theorem lw_set0 : ∀ w : Nat, w < 10 → ¬ rf_and (rf_shr 0 (w : Int)) 1 = 1 := by decide +kernel
theorem lw_961e (hP : ∀ k i, k < 77 → P k i = rg_P k i) (h : lwS X G E n D) {T : Nat} (T7 : T ≤ 7) (hZ : D 54 1 = ((3 * T : Nat) : Int)) (hL : ∀ j, j < T → lwL (D 55) (lc_fi X 0) j) (d : Nat) : ∃ (D' : rf_D) (set : Int), rf_j_L_law_961 (d + 15) 1000000 0 1 (some 78) (n : Int) (T : Int) (T : Int) (lh P X D) = rf_j_L_law_1144 (d + 15) 1000000 0 1 (some 78) (n : Int) set (lh P X D') ∧ lwS X G E n D' ∧ (0 < set ∧ set < 1024) ∧ rf_and set (-1023) = 0 := by
  have f0 := lc_fi_0 X
  obtain ⟨w, hw⟩ := Int.eq_ofNat_of_zero_le (show 0 ≤ lc_fi X 0 by omega)
  obtain ⟨f, hf⟩ : ∃ f, f = D 55 := ⟨_, rfl⟩
  have cells : ∀ i, i < 3 * T → 0 ≤ D 55 i ∧ D 55 i ≤ (if i % 3 = 0 then 2 else if i % 3 = 1 then 9 else 1) := fun i hi => by
    obtain ⟨l1, l2, l3, -⟩ := hL (i / 3) (by omega)
    have e : i = 3 * (i / 3) ∨ i = 3 * (i / 3) + 1 ∨ i = 3 * (i / 3) + 2 := by omega
    rcases e with e | e | e
    · rw [if_pos (by omega), e]
      exact l1
    · rw [if_neg (by omega), if_pos (by omega), e]
      exact l2
    · rw [if_neg (by omega), if_neg (by omega), e]
      exact l3
  have c0 : ct_v f (w : Int) T = 0 := pq_ct0 T fun t ht => by
    rw [← hw, hf]
    exact (hL t ht).2.2.2
  have we := pq_weights (X := X) (R := 5) (T := T) (by decide) (by omega) h.1.1.1 hZ cells (d + 7)
  rw [show ((5 : Nat) : Int) = 5 from rfl, show 44 + 2 * 5 + 1 = 55 from rfl, ← hf, pq_wt_wf] at we
  obtain ⟨⟨b1, b2, b3⟩, b4⟩ := pq_ball (fun w => decide (ct_v f (w : Int) T = 0))
  have b5 := b4 w (by omega) (by omega)
  rw [if_pos (decide_eq_true c0)] at b5
  obtain ⟨set, hset⟩ : ∃ set, set = pq_wf (fun w => decide (ct_v f (w : Int) T = 0)) 9 := ⟨_, rfl⟩
  rw [← hset] at we b1 b2 b3 b5
  have n0 : 0 < set := by
    have e : ¬ set = 0 := fun z => by
      rw [z] at b5
      exact lw_set0 w (by omega) b5
    omega
  have li := pq_lies (X := X) (R := 5) (T := T) (by decide) (by omega) h.1.1.1 hZ cells (w := (w : Int)) (by omega) (by omega) (d + 7)
  rw [show ((5 : Nat) : Int) = 5 from rfl, show 44 + 2 * 5 + 1 = 55 from rfl, ← hf, c0, fi_0 f (w : Int) (by omega) c0] at li
  have as := pq_asked (X := X) (D := wtl (-9) D) (d + 7)
  rw [pq_tl] at as
  refine ⟨wtl (-9) D, set, ?_, h.tl _, ⟨n0, b2⟩, b3⟩
  rw [rf_e_L_law_961, if_neg (by omega), q_o, q_I (lh_up hP we), if_neg (by decide), q_I (lq_first (lh_X P X D) (d + 13) 0), hw, if_pos b5, if_pos n0, if_pos b2, q_I (lq_first (lh_X P X D) (d + 13) 0), hw, q_o, q_I (lh_up hP li), if_pos (by first | rfl | trivial), q_o, q_I (lh_up hP as), if_pos (by first | rfl | trivial)]
theorem lw_pc (set : Int) : ∀ k : Nat, 0 ≤ pc_v set k ∧ pc_v set k ≤ (k : Int)
  | 0 => ⟨Int.le_refl _, Int.le_refl _⟩
  | k + 1 => by
    have ih := lw_pc set k
    show 0 ≤ (if bt_v set ((k + 1 : Nat) : Int) = true then pc_v set k + 1 else pc_v set k) ∧ (if bt_v set ((k + 1 : Nat) : Int) = true then pc_v set k + 1 else pc_v set k) ≤ ((k + 1 : Nat) : Int)
    split <;> omega
theorem lw_bit {p b : Int} {k : Nat} (hp : 0 ≤ p ∧ p ≤ (k : Int)) (k9 : k ≤ 9) (hb : 0 ≤ b ∧ b ≤ 1) : rf_w (p + b) = if decide (b = 1) = true then p + 1 else p := by
  rw [rg_w (by omega) (by omega)]
  have e : b = 0 ∨ b = 1 := by omega
  rcases e with rfl | rfl
  · rw [if_neg (by decide)]
    omega
  · rw [if_pos (by decide)]
theorem lw_1176 (set l21 l22 : Int) (h : rf_H) (d : Nat) : ∀ (j k : Nat), k + j = 9 → rf_j_L_law_1176 d 1000000 0 1 (some 78) (n : Int) set l21 l22 (pc_v set k) ((k + 1 : Nat) : Int) h = rf_j_L_law_1176 d 1000000 0 1 (some 78) (n : Int) set l21 l22 (pc_v set 9) 10 h
  | 0, k, hk => by
    have e : k = 9 := by omega
    rw [e]
    rfl
  | j + 1, k, hk => by
    have e : pc_v set (k + 1) = if bt_v set ((k + 1 : Nat) : Int) = true then pc_v set k + 1 else pc_v set k := rfl
    have b := pq_and (x := rf_shr set ((k + 1 : Nat) : Int)) (y := 1) (by decide) (by decide)
    have z := lw_bit (lw_pc set k) (by omega) b
    unfold bt_v at e
    rw [← e] at z
    rw [rf_e_L_law_1176, if_pos (by omega), z, xs_1 (show k + 1 ≤ 1000 by omega)]
    exact lw_1176 set l21 l22 h d j (k + 1) (by omega)
theorem lw_1144 (hP : ∀ k i, k < 77 → P k i = rg_P k i) (h : lwS X G E n D) {set : Int} (s0 : 0 < set ∧ set < 1024) (s1 : rf_and set (-1023) = 0) (d : Nat) : ∃ D' : rf_D, rf_j_L_law_1144 (d + 15) 1000000 0 1 (some 78) (n : Int) set (lh P X D) = rf_j_L_law_1240 (d + 15) 1000000 0 1 (some 78) (n : Int) (lh P X D') ∧ lwS X G E n D' := by
  obtain ⟨t, ht, t3⟩ := lw_m X 29 (y := 3) (by decide)
  have tr := pq_trial (X := X) (D := D) (set := set) (rail := (t : Int)) (by unfold I32; omega) (by omega) s1 (by omega) (by omega) (d + 7)
  obtain ⟨⟨c1, c2⟩, c3, c4⟩ := pq_tr (set := set) (rail := (t : Int)) (by omega) (by omega) 9 (by decide)
  obtain ⟨v, hv⟩ : ∃ v, v = (tr_v set (t : Int) 9).2 := ⟨_, rfl⟩
  obtain ⟨u, hu⟩ : ∃ u, u = (tr_v set (t : Int) 9).1 := ⟨_, rfl⟩
  rw [← hu, ← hv] at tr
  rw [← hu] at c1 c2
  rw [← hv] at c3 c4
  have pc := lw_pc set 9
  have as := pq_asked (X := X) (D := wtl v D) (d + 7)
  rw [pq_tl] at as
  have lp : rf_j_L_law_1176 (d + 15) 1000000 0 1 (some 78) (n : Int) set u v 0 1 (lh P X (wtl v D)) = _ := lw_1176 set u v (lh P X (wtl v D)) (d + 15) 9 0 (by decide)
  refine ⟨wtl v D, ?_, h.tl v⟩
  rw [rf_e_L_law_1144, q_I (lq_cell (lh_X P X D) (d + 14) (by decide)), ht, q_o, q_I (lh_up hP tr), q_o, q_I (lh_up hP as), lp, rf_e_L_law_1176, if_neg (by decide), if_neg (by decide), if_neg (Int.not_lt.2 c1), if_pos (by omega), if_neg (Int.not_lt.2 c3), rg_w (z := v + v) (by omega) (by omega), if_neg (by omega)]
end PQOb
