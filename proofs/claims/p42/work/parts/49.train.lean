/-! train: a text read, the train begins -/
section PSO
variable {x : Nat → Int} {n : Nat}
theorem ps_f_1 {to : Nat} {lo hi : Int} {q : PS} (h : (ps_f x n to lo hi q).1 = true) : lo ≤ (ps_f x n to lo hi q).2.2 to := by
  unfold ps_f at *
  by_cases a : lo ≤ ps_c x n q.1 - 48 ∧ ps_c x n q.1 - 48 ≤ hi
  · rw [if_pos a] at h ⊢
    show lo ≤ rg_ui q.2 to (ps_c x n q.1 - 48) to
    rw [rg_ui_s]
    exact a.1
  · rw [if_neg a] at h
    cases h
theorem ps_e2_0 (q : PS) : (ps_e2 x n q).2.2 0 = q.2 0 := by
  unfold ps_e2 ps_e3 ps_e4
  by_cases a : (ps_f x n 27 0 9 q).1 = true
  · rw [if_pos a]
    by_cases b : (ps_f x n 28 0 9 (ps_f x n 27 0 9 q).2).1 = true
    · rw [if_pos b, ps_f_keep (by decide), ps_f_keep (by decide), ps_f_keep (by decide)]
    · rw [if_neg b, ps_f_keep (by decide), ps_f_keep (by decide)]
  · rw [if_neg a, ps_f_keep (by decide)]
theorem ps_eng_0 {q : PS} (h : (ps_eng x n q).1 = true) : 1 ≤ (ps_eng x n q).2.2 0 := by
  unfold ps_eng at *
  by_cases a : ps_c x n q.1 = 101
  · rw [if_pos a] at h ⊢
    unfold ps_e1 at *
    by_cases b : (ps_f x n 0 1 9 (q.1 + 1, q.2)).1 = true
    · rw [if_pos b] at h ⊢
      rw [ps_e2_0]
      exact ps_f_1 b
    · rw [if_neg b] at h
      exact absurd h b
  · rw [if_neg a] at h
    cases h
theorem ps_r1_ok {q : PS} (hg : PI q.2) (h0 : 1 ≤ q.2 0) (h : (ps_r1 x n q).1 = true) : PI (ps_r1 x n q).2.2 ∧ 1 ≤ (ps_r1 x n q).2.2 0 ∧ 1 ≤ (ps_r1 x n q).2.2 2 := by
  unfold ps_r1 at *
  by_cases b : ps_c x n q.1 = 105
  · rw [if_pos b] at h ⊢
    have hn : q.1 + 1 ≤ n := by
      unfold ps_c at b
      by_cases z : q.1 < n
      · exact z
      · rw [if_neg z] at b
        omega
    have P2 := PI.rl (x := x) (n := n) 6 (q.1 + 1, q.2) hg
    have L2 := ps_rl_le (x := x) (n := n) 6 (q.1 + 1, q.2) hn
    have K2 := ps_rl_keep (x := x) (n := n) 6 (q.1 + 1, q.2) 0 (hg 2 (by decide)).1 (Or.inl rfl)
    have K3 : 1 ≤ (ps_rl x n 6 (q.1 + 1, q.2)).2 0 := by
      rw [K2]
      exact h0
    clear K2
    generalize ps_rl x n 6 (q.1 + 1, q.2) = r at h P2 L2 K3 ⊢
    unfold ps_r2 at *
    by_cases c : 0 < r.2 2 ∧ ps_c x n r.1 ≠ 100 ∧ ps_c x n r.1 ≠ 108
    · rw [if_pos c] at h ⊢
      have P3 := PI.lp (x := x) (n := n) 7 r P2
      have K4 := ps_lp_keep (x := x) (n := n) 7 r L2 P2
      refine ⟨P3, ?_, ?_⟩
      · rw [K4.1 0 (by decide)]
        exact K3
      · rw [K4.1 2 (by decide)]
        exact c.1
    · rw [if_neg c] at h
      cases h
  · rw [if_neg b] at h
    cases h
theorem ps_ok {g : Nat → Int} (hg : PI g) (h : (ps_all x n g).1 = true) : PI (ps_all x n g).2.2 ∧ 1 ≤ (ps_all x n g).2.2 0 ∧ 1 ≤ (ps_all x n g).2.2 2 := by
  unfold ps_all at *
  have P1 := PI.eng (x := x) (n := n) (q := (ps_sk x n 60 0, g)) hg
  by_cases a : (ps_eng x n (ps_sk x n 60 0, g)).1 = true
  · have v0 := ps_eng_0 a
    rw [if_pos a] at h ⊢
    exact ps_r1_ok P1 v0 h
  · rw [if_neg a] at h
    exact absurd h a
end PSO
/-- a good header, from what the reader leaves -/
theorem PI.hd {g : Nat → Int} (h : PI g) (h0 : 1 ≤ g 0) (h2 : 1 ≤ g 2) : sp_hd g := by
  refine ⟨⟨h0, (h 0 (by decide)).2⟩, h 1 (by decide), ⟨h2, (h 2 (by decide)).2⟩, fun i hi => ?_, fun i hi => ?_⟩
  · have r := h (3 + i) (by omega)
    have e : pb (3 + i) = (0, 2) := by
      unfold pb
      rw [if_neg (by omega), if_neg (by omega), if_neg (by omega), if_pos (by omega)]
    rw [e] at r
    exact r
  · have p := pb_k (m := (i : Int)) (by omega) (by omega)
    have a := h (9 + 3 * (i : Int)).toNat (by omega)
    have b := h (9 + 3 * (i : Int) + 1).toNat (by omega)
    have c := h (9 + 3 * (i : Int) + 2).toNat (by omega)
    rw [p.1, show (9 + 3 * (i : Int)).toNat = 9 + 3 * i by omega] at a
    rw [p.2.1, show (9 + 3 * (i : Int) + 1).toNat = 10 + 3 * i by omega] at b
    rw [p.2.2, show (9 + 3 * (i : Int) + 2).toNat = 11 + 3 * i by omega] at c
    exact ⟨a, b, c⟩
/-- and so it begins -/
theorem PI.bg {g : Nat → Int} (h : PI g) {A : Nat → Int} (hA : ∀ j, j < 27 → A j = g j) : ∀ j, j < 37 → g j = sp_bg A (g 27) (g 28) (g 36) j := by
  have a29 : g 29 = 0 := Int.le_antisymm (h 29 (by decide)).2 (h 29 (by decide)).1
  have a30 : g 30 = 0 := Int.le_antisymm (h 30 (by decide)).2 (h 30 (by decide)).1
  have a31 : g 31 = 1 := Int.le_antisymm (h 31 (by decide)).2 (h 31 (by decide)).1
  have a32 : g 32 = 1 := Int.le_antisymm (h 32 (by decide)).2 (h 32 (by decide)).1
  have a33 : g 33 = 0 := Int.le_antisymm (h 33 (by decide)).2 (h 33 (by decide)).1
  have a34 : g 34 = 0 := Int.le_antisymm (h 34 (by decide)).2 (h 34 (by decide)).1
  have a35 : g 35 = 0 := Int.le_antisymm (h 35 (by decide)).2 (h 35 (by decide)).1
  intro j hj
  unfold sp_bg
  by_cases q : j < 27
  · rw [if_pos q, hA j q]
  · rw [if_neg q]
    by_cases q1 : j = 27
    · rw [if_pos q1, q1]
    · rw [if_neg q1]
      by_cases q2 : j = 28
      · rw [if_pos q2, q2]
      · rw [if_neg q2]
        by_cases q3 : j = 31
        · rw [if_pos q3, q3, a31]
        · rw [if_neg q3]
          by_cases q4 : j = 32
          · rw [if_pos q4, q4, a32]
          · rw [if_neg q4]
            by_cases q5 : j = 36
            · rw [if_pos q5, q5]
            · rw [if_neg q5]
              by_cases q6 : j = 29
              · rw [q6, a29]
              · by_cases q7 : j = 30
                · rw [q7, a30]
                · by_cases q8 : j = 33
                  · rw [q8, a33]
                  · by_cases q9 : j = 34
                    · rw [q9, a34]
                    · rw [show j = 35 by omega, a35]
section RGS13
variable {X : rf_X} {D : rf_D}
theorem rg_W_train_77 (d : Nat) : ∀ (k i : Nat) (D : rf_D), i + k = 3 → ∃ D1, rf_j_W_train_77 (d + 7) 0 (i : Int) (hp X D) = rf_j_W_train_77 (d + 7) 0 3 (hp X D1) ∧ (∀ a, (a < 64 ∨ 69 < a) → D1 a = D a) ∧ (∀ q, i ≤ q → q < 3 → D1 (64 + 2 * q) 1 = -1) ∧ ∀ q, q < i → D1 (64 + 2 * q) = D (64 + 2 * q)
  | 0, i, D, hk => ⟨D, by rw [show i = 3 by omega]; rfl, fun _ _ => rfl, fun q h1 h2 => by omega, fun _ _ => rfl⟩
  | k + 1, i, D, hk => by
    have e := rg_keptN (X := X) (D := D) (K := i) (by omega)
    have x2 : rf_w ((i : Int) + 1) = ((i + 1 : Nat) : Int) := by
      rw [rg_w (by omega) (by omega)]
      omega
    obtain ⟨D1, r1, r2, r3, r4⟩ := rg_W_train_77 d k (i + 1) (rg_up D (64 + 2 * i) (rg_ui (D (64 + 2 * i)) 1 (-1))) (by omega)
    refine ⟨D1, ?_, fun a h => ?_, fun q h1 h2 => ?_, fun q h => ?_⟩
    · rw [← r1, rf_e_W_train_77, if_pos (by omega)]
      try simp only [rg_gR_0_2, Int.reduceToNat, rg_kIs, rg_kLs, rg_kRs, rg_kVs, rg_nns, rg_bs, cond_true, cond_false]
      rw [rg_W_pick_y (n := 3) (d + 6) (rg_aL_3 X D) (by omega) e.2]
      try simp only [rg_hp1, rg_row_o e.1, rg_nzs, Int.reduceToNat, rg_kIs, rg_kLs, rg_kRs, rg_kVs, rg_nns, rg_bs, cond_true, cond_false]
      rw [rg_R_goMissing e.1]
      try simp only [Int.reduceToNat, rg_kIs, rg_kLs, rg_kRs, rg_kVs, rg_nns, rg_bs, cond_true, cond_false, x2]
    · rw [r2 a h, rg_up_n (by omega)]
    · by_cases z : q = i
      · rw [z, r4 i (by omega), rg_up_s, rg_ui_s]
      · exact r3 q (by omega) h2
    · rw [r4 q (by omega), rg_up_n (by omega)]
end RGS13
