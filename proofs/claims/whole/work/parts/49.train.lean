/-! train: a text read, the train begins -/
section PSO
variable {x : Nat → Int} {n : Nat}
theorem ps_f_1 {to : Nat} {lo hi : Int} {q : PS} (h : (ps_f x n to lo hi q).1 = true) : lo ≤ (ps_f x n to lo hi q).2.2 to := by
  unfold ps_f at *
  by_cases a : lo ≤ ps_c x n q.1 - 48 ∧ ps_c x n q.1 - 48 ≤ hi
  · rw [if_pos a] at h ⊢
    show lo ≤ rg_ui q.2 to (ps_c x n q.1 - 48) to
    rw [rg_ui_s]
    exact a.1
  · rw [if_neg a] at h
    cases h
theorem ps_e2_0 (q : PS) : (ps_e2 x n q).2.2 0 = q.2 0 := by
  unfold ps_e2 ps_e3 ps_e4
  by_cases a : (ps_f x n 27 0 9 q).1 = true
  · rw [if_pos a]
    by_cases b : (ps_f x n 28 0 9 (ps_f x n 27 0 9 q).2).1 = true
    · rw [if_pos b, ps_f_keep (by decide), ps_f_keep (by decide), ps_f_keep (by decide)]
    · rw [if_neg b, ps_f_keep (by decide), ps_f_keep (by decide)]
  · rw [if_neg a, ps_f_keep (by decide)]
theorem ps_eng_0 {q : PS} (h : (ps_eng x n q).1 = true) : 1 ≤ (ps_eng x n q).2.2 0 := by
  unfold ps_eng at *
  by_cases a : ps_c x n q.1 = 101
  · rw [if_pos a] at h ⊢
    unfold ps_e1 at *
    by_cases b : (ps_f x n 0 1 9 (q.1 + 1, q.2)).1 = true
    · rw [if_pos b] at h ⊢
      rw [ps_e2_0]
      exact ps_f_1 b
    · rw [if_neg b] at h
      exact absurd h b
  · rw [if_neg a] at h
    cases h
theorem ps_r1_ok {q : PS} (hg : PI q.2) (h0 : 1 ≤ q.2 0) (h : (ps_r1 x n q).1 = true) : PI (ps_r1 x n q).2.2 ∧ 1 ≤ (ps_r1 x n q).2.2 0 ∧ 1 ≤ (ps_r1 x n q).2.2 2 := by
  unfold ps_r1 at *
  by_cases b : ps_c x n q.1 = 105
  · rw [if_pos b] at h ⊢
    have hn : q.1 + 1 ≤ n := by
      unfold ps_c at b
      by_cases z : q.1 < n
      · exact z
      · rw [if_neg z] at b
        omega
    have P2 := PI.rl (x := x) (n := n) 6 (q.1 + 1, q.2) hg
    have L2 := ps_rl_le (x := x) (n := n) 6 (q.1 + 1, q.2) hn
    have K2 := ps_rl_keep (x := x) (n := n) 6 (q.1 + 1, q.2) 0 (hg 2 (by decide)).1 (Or.inl rfl)
    have K3 : 1 ≤ (ps_rl x n 6 (q.1 + 1, q.2)).2 0 := by
      rw [K2]
      exact h0
    clear K2
    generalize ps_rl x n 6 (q.1 + 1, q.2) = r at h P2 L2 K3 ⊢
    unfold ps_r2 at *
    by_cases c : 0 < r.2 2 ∧ ps_c x n r.1 ≠ 100 ∧ ps_c x n r.1 ≠ 108
    · rw [if_pos c] at h ⊢
      have P3 := PI.lp (x := x) (n := n) 7 r P2
      have K4 := ps_lp_keep (x := x) (n := n) 7 r L2 P2
      refine ⟨P3, ?_, ?_⟩
      · rw [K4.1 0 (by decide)]
        exact K3
      · rw [K4.1 2 (by decide)]
        exact c.1
    · rw [if_neg c] at h
      cases h
  · rw [if_neg b] at h
    cases h
theorem ps_ok {g : Nat → Int} (hg : PI g) (h : (ps_all x n g).1 = true) : PI (ps_all x n g).2.2 ∧ 1 ≤ (ps_all x n g).2.2 0 ∧ 1 ≤ (ps_all x n g).2.2 2 := by
  unfold ps_all at *
  have P1 := PI.eng (x := x) (n := n) (q := (ps_sk x n 60 0, g)) hg
  by_cases a : (ps_eng x n (ps_sk x n 60 0, g)).1 = true
  · have v0 := ps_eng_0 a
    rw [if_pos a] at h ⊢
    exact ps_r1_ok P1 v0 h
  · rw [if_neg a] at h
    exact absurd h a
end PSO
/-- a good header, from what the reader leaves -/
theorem PI.hd {g : Nat → Int} (h : PI g) (h0 : 1 ≤ g 0) (h2 : 1 ≤ g 2) : sp_hd g := by
  refine ⟨⟨h0, (h 0 (by decide)).2⟩, h 1 (by decide), ⟨h2, (h 2 (by decide)).2⟩, fun i hi => ?_, fun i hi => ?_⟩
  · have r := h (3 + i) (by omega)
    have e : pb (3 + i) = (0, 2) := by
      unfold pb
      rw [if_neg (by omega), if_neg (by omega), if_neg (by omega), if_pos (by omega)]
    rw [e] at r
    exact r
  · have p := pb_k (m := (i : Int)) (by omega) (by omega)
    have a := h (9 + 3 * (i : Int)).toNat (by omega)
    have b := h (9 + 3 * (i : Int) + 1).toNat (by omega)
    have c := h (9 + 3 * (i : Int) + 2).toNat (by omega)
    rw [p.1, show (9 + 3 * (i : Int)).toNat = 9 + 3 * i by omega] at a
    rw [p.2.1, show (9 + 3 * (i : Int) + 1).toNat = 10 + 3 * i by omega] at b
    rw [p.2.2, show (9 + 3 * (i : Int) + 2).toNat = 11 + 3 * i by omega] at c
    exact ⟨a, b, c⟩
/-- and so it begins -/
theorem PI.bg {g : Nat → Int} (h : PI g) {A : Nat → Int} (hA : ∀ j, j < 27 → A j = g j) : ∀ j, j < 37 → g j = sp_bg A (g 27) (g 28) (g 36) j := by
  have a29 : g 29 = 0 := Int.le_antisymm (h 29 (by decide)).2 (h 29 (by decide)).1
  have a30 : g 30 = 0 := Int.le_antisymm (h 30 (by decide)).2 (h 30 (by decide)).1
  have a31 : g 31 = 1 := Int.le_antisymm (h 31 (by decide)).2 (h 31 (by decide)).1
  have a32 : g 32 = 1 := Int.le_antisymm (h 32 (by decide)).2 (h 32 (by decide)).1
  have a33 : g 33 = 0 := Int.le_antisymm (h 33 (by decide)).2 (h 33 (by decide)).1
  have a34 : g 34 = 0 := Int.le_antisymm (h 34 (by decide)).2 (h 34 (by decide)).1
  have a35 : g 35 = 0 := Int.le_antisymm (h 35 (by decide)).2 (h 35 (by decide)).1
  intro j hj
  unfold sp_bg
  by_cases q : j < 27
  · rw [if_pos q, hA j q]
  · rw [if_neg q]
    by_cases q1 : j = 27
    · rw [if_pos q1, q1]
    · rw [if_neg q1]
      by_cases q2 : j = 28
      · rw [if_pos q2, q2]
      · rw [if_neg q2]
        by_cases q3 : j = 31
        · rw [if_pos q3, q3, a31]
        · rw [if_neg q3]
          by_cases q4 : j = 32
          · rw [if_pos q4, q4, a32]
          · rw [if_neg q4]
            by_cases q5 : j = 36
            · rw [if_pos q5, q5]
            · rw [if_neg q5]
              by_cases q6 : j = 29
              · rw [q6, a29]
              · by_cases q7 : j = 30
                · rw [q7, a30]
                · by_cases q8 : j = 33
                  · rw [q8, a33]
                  · by_cases q9 : j = 34
                    · rw [q9, a34]
                    · rw [show j = 35 by omega, a35]
section RGS13
variable {X : rf_X} {D : rf_D}
theorem rg_M_train_39 (d : Nat) : ∀ (k i : Nat) (D : rf_D), i + k = 638 → rf_j_M_train_39 d 77 (i : Int) (hp X D) = rf_j_M_train_66 d 77 0 (hp X (rg_up D 82 (fun j => if i ≤ j ∧ j < 638 then D 87 j else D 82 j)))
  | 0, i, D, hk => by
    rw [rf_e_M_train_39, if_neg (by omega)]
    have e : (fun j => if i ≤ j ∧ j < 638 then D 87 j else D 82 j) = D 82 := by
      funext j
      rw [if_neg (by omega)]
    rw [e, rg_up_i]
  | k + 1, i, D, hk => by
    have x2 : rf_w ((i : Int) + 1) = ((i + 1 : Nat) : Int) := by
      rw [rg_w (by omega) (by omega)]
      omega
    rw [rf_e_M_train_39, if_pos (by omega)]
    try simp only [rg_gR_77_4, rg_gR_77_16, Int.reduceToNat, rg_kIs, rg_kLs, rg_kRs, rg_kVs, rg_nns, rg_bs, cond_true, cond_false, x2]
    rw [rg_aI_87 (by omega) (by omega)]
    try simp only [Int.reduceToNat, rg_kIs, rg_kLs, rg_kRs, rg_kVs, rg_nns, rg_bs, cond_true, cond_false]
    rw [rg_sI_82 (by omega) (by omega)]
    try simp only [Int.reduceToNat, rg_kIs, rg_kLs, rg_kRs, rg_kVs, rg_nns, rg_bs, cond_true, cond_false]
    rw [rg_M_train_39 d k (i + 1) _ (by omega), rg_up_u, rg_up_s, rg_up_n (by decide), rg_tN]
    refine congrArg (fun f : Nat → Int => rf_j_M_train_66 d 77 0 (hp X (rg_up D 82 f))) (funext fun j => ?_)
    show (if i + 1 ≤ j ∧ j < 638 then D 87 j else (if j = i then D 87 i else D 82 j)) = (if i ≤ j ∧ j < 638 then D 87 j else D 82 j)
    by_cases h1 : i + 1 ≤ j ∧ j < 638
    · rw [if_pos h1, if_pos (by omega)]
    · rw [if_neg h1]
      by_cases h2 : j = i
      · rw [if_pos h2, if_pos (by omega), h2]
      · rw [if_neg h2, if_neg (by omega)]
theorem rg_M_train_66 (d : Nat) : ∀ (k i : Nat) (D : rf_D), i + k = 3 → rf_j_M_train_66 d 77 (i : Int) (hp X D) = some (some (.inl (D 82 36)), hp X (rg_up D 84 (fun j => if i ≤ j ∧ j < 3 then 0 else D 84 j)))
  | 0, i, D, hk => by
    rw [rf_e_M_train_66, if_neg (by omega)]
    have e : (fun j => if i ≤ j ∧ j < 3 then 0 else D 84 j) = D 84 := by
      funext j
      rw [if_neg (by omega)]
    rw [e, rg_up_i]
    try simp only [rg_gR_77_4, Int.reduceToNat, rg_kIs, rg_kLs, rg_kRs, rg_kVs, rg_nns, rg_bs, cond_true, cond_false]
    rw [rg_aI_82 (by decide) (by decide)]
    try simp only [Int.reduceToNat, rg_kIs, rg_kLs, rg_kRs, rg_kVs, rg_nns, rg_bs, cond_true, cond_false]
  | k + 1, i, D, hk => by
    have x2 : rf_w ((i : Int) + 1) = ((i + 1 : Nat) : Int) := by
      rw [rg_w (by omega) (by omega)]
      omega
    rw [rf_e_M_train_66, if_pos (by omega)]
    try simp only [rg_gR_77_6, Int.reduceToNat, rg_kIs, rg_kLs, rg_kRs, rg_kVs, rg_nns, rg_bs, cond_true, cond_false, x2]
    rw [rg_sZ_84 (by omega) (by omega)]
    try simp only [Int.reduceToNat, rg_kIs, rg_kLs, rg_kRs, rg_kVs, rg_nns, rg_bs, cond_true, cond_false]
    rw [rg_M_train_66 d k (i + 1) _ (by omega), rg_up_u, rg_up_s, rg_up_n (by decide), rg_tN]
    refine congrArg (fun f : Nat → Int => (some (some (.inl (D 82 36)), hp X (rg_up D 84 f)) : Option rf_R)) (funext fun j => ?_)
    show (if i + 1 ≤ j ∧ j < 3 then 0 else (if j = i then 0 else D 84 j)) = (if i ≤ j ∧ j < 3 then 0 else D 84 j)
    by_cases h1 : i + 1 ≤ j ∧ j < 3
    · rw [if_pos h1, if_pos (by omega)]
    · rw [if_neg h1]
      by_cases h2 : j = i
      · rw [if_pos h2, if_pos (by omega)]
      · rw [if_neg h2, if_neg (by omega)]
theorem rg_W_train_77 (d : Nat) : ∀ (k i : Nat) (D : rf_D), i + k = 3 → ∃ D1, rf_j_W_train_77 (d + 7) 0 (i : Int) (hp X D) = rf_j_W_train_77 (d + 7) 0 3 (hp X D1) ∧ (∀ a, (a < 64 ∨ 69 < a) → D1 a = D a) ∧ (∀ q, i ≤ q → q < 3 → D1 (64 + 2 * q) 1 = -1) ∧ ∀ q, q < i → D1 (64 + 2 * q) = D (64 + 2 * q)
  | 0, i, D, hk => ⟨D, by rw [show i = 3 by omega]; rfl, fun _ _ => rfl, fun q h1 h2 => by omega, fun _ _ => rfl⟩
  | k + 1, i, D, hk => by
    have e := rg_keptN (X := X) (D := D) (K := i) (by omega)
    have x2 : rf_w ((i : Int) + 1) = ((i + 1 : Nat) : Int) := by
      rw [rg_w (by omega) (by omega)]
      omega
    obtain ⟨D1, r1, r2, r3, r4⟩ := rg_W_train_77 d k (i + 1) (rg_up D (64 + 2 * i) (rg_ui (D (64 + 2 * i)) 1 (-1))) (by omega)
    refine ⟨D1, ?_, fun a h => ?_, fun q h1 h2 => ?_, fun q h => ?_⟩
    · rw [← r1, rf_e_W_train_77, if_pos (by omega)]
      try simp only [rg_gR_0_2, Int.reduceToNat, rg_kIs, rg_kLs, rg_kRs, rg_kVs, rg_nns, rg_bs, cond_true, cond_false]
      rw [rg_W_pick_y (n := 3) (d + 6) (rg_aL_3 X D) (by omega) e.2]
      try simp only [rg_hp1, rg_row_o e.1, rg_nzs, Int.reduceToNat, rg_kIs, rg_kLs, rg_kRs, rg_kVs, rg_nns, rg_bs, cond_true, cond_false]
      rw [rg_R_goMissing e.1]
      try simp only [Int.reduceToNat, rg_kIs, rg_kLs, rg_kRs, rg_kVs, rg_nns, rg_bs, cond_true, cond_false, x2]
    · rw [r2 a h, rg_up_n (by omega)]
    · by_cases z : q = i
      · rw [z, r4 i (by omega), rg_up_s, rg_ui_s]
      · exact r3 q (by omega) h2
    · rw [r4 q (by omega), rg_up_n (by omega)]
theorem st_train (hX : XL X) (hI : Inv D) (d : Nat) (r : Int) : Ag X D (d + 8) 68 140 [.inl r] := by
  unfold Ag
  have h6 := hI.2.2.1.2.1
  by_cases hr : 0 ≤ r ∧ r < 4
  · obtain ⟨R, rfl⟩ := Int.eq_ofNat_of_zero_le hr.1
    have hR : R < 4 := by omega
    have row := rg_textN (X := X) (D := D) hR
    obtain ⟨q1, q2, q3, q4⟩ := hI.2.1 R hR
    by_cases z : D (56 + 2 * R) 1 < 0
    · refine ⟨-3, wfd 1 D, mfd 1 (wfd 1 D), ?_, ?_, hI.fd (by decide) (by decide)⟩
      · rw [rf_e_W_train]
        try simp only [rg_gR_0_1, Int.reduceToNat, rg_kIs, rg_kLs, rg_kRs, rg_kVs, rg_nns, rg_bs, cond_true, cond_false]
        rw [rg_W_pick_y (n := 4) (d + 6) (rg_aL_2 X D) hr row.2]
        try simp only [rg_hp1, rg_o_0, rg_row_o row.1, rg_nzs, Int.reduceToNat, rg_kIs, rg_kLs, rg_kRs, rg_kVs, rg_nns, rg_bs, cond_true, cond_false]
        rw [rg_R_isThere row.1]
        try simp only [Int.reduceToNat, rg_kIs, rg_kLs, rg_kRs, rg_kVs, rg_nns, rg_bs, cond_true, cond_false]
        rw [if_pos z, if_pos (by decide)]
        try simp only [rg_hp1, rg_o_0, Int.reduceToNat, rg_kIs, rg_kLs, rg_kRs, rg_kVs, rg_nns, rg_bs, cond_true, cond_false]
        rw [rg_W_found (d + 4) (by decide) (by decide) h6]
        try simp only [Int.reduceToNat, rg_kIs, rg_kLs, rg_kRs, rg_kVs, rg_nns, rg_bs, cond_true, cond_false]
      · rw [rf_e_M_train, rg_M_isText]
        try simp only [if_pos hr, Int.reduceToNat, rg_kIs, rg_kLs, rg_kRs, rg_kVs, rg_nns, rg_bs, cond_true, cond_false]
        rw [if_neg (by decide)]
        try simp only [rg_gR_77_2, Int.reduceToNat, rg_kIs, rg_kLs, rg_kRs, rg_kVs, rg_nns, rg_bs, cond_true, cond_false]
        rw [rg_aI_80 (by omega) (by omega)]
        try simp only [Int.reduceToNat, rg_kIs, rg_kLs, rg_kRs, rg_kVs, rg_nns, rg_bs, cond_true, cond_false]
        rw [rg_tN, wfd_n (by decide) (by decide), q1, if_pos z]
        try simp only [rg_hp1, rg_o_77, Int.reduceToNat, rg_kIs, rg_kLs, rg_kRs, rg_kVs, rg_nns, rg_bs, cond_true, cond_false]
        rw [rg_M_finds (d + 6) (by decide) (by decide)]
        try simp only [Int.reduceToNat, rg_kIs, rg_kLs, rg_kRs, rg_kVs, rg_nns, rg_bs, cond_true, cond_false]
    · obtain ⟨Z, hZ⟩ := Int.eq_ofNat_of_zero_le (show 0 ≤ D (56 + 2 * R) 1 by omega)
      have hb : ∀ k, k < Z → -128 ≤ D (56 + 2 * R + 1) k ∧ D (56 + 2 * R + 1) k ≤ 127 := fun k hk => (q4 k (by omega)).2 trivial
      obtain ⟨E, e1, e2, -⟩ := rg_E_faultOf hX rg_con_13 (Or.inl rfl) row.1 (by omega) (n := Z) (by omega) (x := D (56 + 2 * R + 1)) hb (d + 1) (D := D) (ps_g0 (D 87)) (ps_g0_PI _) rfl rfl (fun _ _ => rfl) hZ
      have En : ∀ a, (a < 12 ∨ 27 < a) → E a = D a := fun a h => e2 a (by omega) (by omega)
      by_cases ok : (ps_all (D (56 + 2 * R + 1)) Z (ps_g0 (D 87))).1 = true
      · obtain ⟨E2, f1, f2, f3⟩ := rg_E_faultOf hX rg_con_28 (Or.inr rfl) row.1 (by omega) (n := Z) (by omega) (x := D (56 + 2 * R + 1)) hb (d + 1) (D := E) (ps_g0 (D 87)) (ps_g0_PI _) rfl rfl (fun k _ => by rw [En (56 + 2 * R + 1) (by omega)]) (by rw [En (56 + 2 * R) (by omega)]; exact hZ)
        rw [if_pos ok] at e1 f1
        obtain ⟨cr, ce⟩ := f3 ok
        obtain ⟨P, P0, P2⟩ := ps_ok (ps_g0_PI _) ok
        have m0 : ∀ D' : rf_D, D' 81 = D 81 → D' 80 = D 80 → D' 87 = D 87 → ∃ f', rf_call (d + 7) 130 [.inr (.inr (some 77)), .inl (R : Int)] (hp X D') = some (some (.inl (-9)), hp X (rg_up (rg_up D' 77 f') 87 (ps_all (D (56 + 2 * R + 1)) Z (ps_g0 (D 87))).2.2)) ∧ ∀ j, j ≠ 13 → j ≠ 14 → j ≠ 15 → f' j = D' 77 j := fun D' y1 y2 y3 => by
          obtain ⟨f', m1, m2⟩ := rg_M_faultOf (X := X) (D := D') (t := R) (n := Z) (x := D (56 + 2 * R + 1)) (fun k hk => by rw [y1]; exact (q4 k (by omega)).1) (by rw [y2, q1, hZ]) (by omega) (by omega) hb (d + 2)
          rw [y3, if_pos ok] at m1
          exact ⟨f', m1, m2⟩
        generalize (ps_all (D (56 + 2 * R + 1)) Z (ps_g0 (D 87))).2.2 = G at cr ce P P0 P2 m0
        clear f3
        have E2n : ∀ a, (a < 12 ∨ 42 < a) → E2 a = D a := fun a h => by rw [f2 a (by omega) (by omega), En a (by omega)]
        have hdG := P.hd P0 P2
        have w31 : E2 31 1 = G 36 := cr.2.2.1.1
        obtain ⟨D3, hD3⟩ : ∃ D3, D3 = rg_up E2 0 (rg_ui (E2 0) 12 1) := ⟨_, rfl⟩
        have D3n : ∀ a, a ≠ 0 → D3 a = E2 a := fun a y => by rw [hD3, rg_up_n y]
        obtain ⟨D4, r1, r2, r3, -⟩ := rg_R_renewE (X := X) (D := D3) rg_row_4 (d + 4) (z := 0) (f := 0) (by decide) (by decide) (by decide)
        obtain ⟨D5, t1, t2, t3, -⟩ := rg_W_train_77 (X := X) d 3 0 D4 (by decide)
        have D5n : ∀ a, a ≠ 0 → a ≠ 4 → a ≠ 5 → (a < 64 ∨ 69 < a) → D5 a = E2 a := fun a y1 y2 y3 y4 => by rw [t2 a y4, r2 a y2 y3, D3n a y1]
        have D54 : D5 4 1 = 0 := by rw [t2 4 (by decide)]; exact r3
        have D528 : D5 28 = E2 28 := D5n 28 (by decide) (by decide) (by decide) (by decide)
        have D531 : D5 31 1 = G 36 := by rw [D5n 31 (by decide) (by decide) (by decide) (by decide), w31]
        have cr5 : CR D5 28 G (D5 31 1) := by
          rw [D531]
          exact cr.of fun a y1 y2 => D5n a (by omega) (by omega) (by omega) (by omega)
        have a8 : 0 ≤ D5 28 8 ∧ D5 28 8 ≤ 9 := by rw [D528, ce.2.1]; exact P 27 (by decide)
        have a9 : 0 ≤ D5 28 9 ∧ D5 28 9 ≤ 9 := by rw [D528, ce.2.2.1]; exact P 28 (by decide)
        obtain ⟨f', b1, b2⟩ := rg_W_anew (X := X) (D := D5) d (A := G) (m := 0) hdG a8 a9 cr5 D54 ⟨by decide, fun k hk => by omega⟩
        obtain ⟨D6, hD6⟩ : ∃ D6, D6 = rg_up D5 43 f' := ⟨_, rfl⟩
        have D6n : ∀ a, a ≠ 43 → D6 a = D5 a := fun a y => by rw [hD6, rg_up_n y]
        have D6D : ∀ a, a ≠ 0 → a ≠ 4 → a ≠ 5 → (a < 12 ∨ 43 < a) → (a < 64 ∨ 69 < a) → D6 a = D a := fun a y1 y2 y3 y4 y5 => by rw [D6n a (by omega), D5n a y1 y2 y3 y5, E2n a (by omega)]
        obtain ⟨f2', m1, m2⟩ := m0 D6 (D6D 81 (by decide) (by decide) (by decide) (by decide) (by decide)) (D6D 80 (by decide) (by decide) (by decide) (by decide) (by decide)) (D6D 87 (by decide) (by decide) (by decide) (by decide) (by decide))
        obtain ⟨D7, hD7⟩ : ∃ D7, D7 = rg_up (rg_up D6 77 f2') 87 G := ⟨_, rfl⟩
        have D7n : ∀ a, a ≠ 77 → a ≠ 87 → D7 a = D6 a := fun a y1 y2 => by rw [hD7, rg_up_n y2, rg_up_n y1]
        obtain ⟨D8, hD8⟩ : ∃ D8, D8 = rg_up D7 82 (fun j => if 0 ≤ j ∧ j < 638 then D7 87 j else D7 82 j) := ⟨_, rfl⟩
        have D8n : ∀ a, a ≠ 82 → D8 a = D7 a := fun a y => by rw [hD8, rg_up_n y]
        have D882 : ∀ j, j < 638 → D8 82 j = G j := fun j hj => by
          rw [hD8, rg_up_s]
          show (if 0 ≤ j ∧ j < 638 then D7 87 j else D7 82 j) = G j
          rw [if_pos ⟨Nat.zero_le _, hj⟩, hD7, rg_up_s]
        obtain ⟨D9, hD9⟩ : ∃ D9, D9 = rg_up D8 84 (fun j => if 0 ≤ j ∧ j < 3 then 0 else D8 84 j) := ⟨_, rfl⟩
        have D9n : ∀ a, a ≠ 84 → D9 a = D8 a := fun a y => by rw [hD9, rg_up_n y]
        have D96 : ∀ a, a ≠ 77 → a ≠ 82 → a ≠ 84 → a ≠ 87 → D9 a = D6 a := fun a y1 y2 y3 y4 => by rw [D9n a y3, D8n a y2, D7n a y1 y4]
        have D982 : ∀ j, j < 638 → D9 82 j = G j := fun j hj => by rw [D9n 82 (by decide)]; exact D882 j hj
        have l39 := rg_M_train_39 (X := X) (d + 7) 638 0 D7 (by decide)
        have l66 := rg_M_train_66 (X := X) (d + 7) 3 0 D8 (by decide)
        rw [show ((0 : Nat) : Int) = 0 from rfl] at l39 l66 t1
        rw [← hD8] at l39
        rw [← hD9] at l66
        have f6 : f' 6 = G 36 := by
          rw [b2.2.2.2.2.2]
          exact D531
        refine ⟨G 36, D6, D9, ?_, ?_, ?_⟩
        · rw [rf_e_W_train]
          try simp only [rg_gR_0_1, Int.reduceToNat, rg_kIs, rg_kLs, rg_kRs, rg_kVs, rg_nns, rg_bs, cond_true, cond_false]
          rw [rg_W_pick_y (n := 4) (d + 6) (rg_aL_2 X D) hr row.2]
          try simp only [rg_hp1, rg_o_0, rg_row_o row.1, rg_nzs, Int.reduceToNat, rg_kIs, rg_kLs, rg_kRs, rg_kVs, rg_nns, rg_bs, cond_true, cond_false]
          rw [rg_R_isThere row.1]
          try simp only [Int.reduceToNat, rg_kIs, rg_kLs, rg_kRs, rg_kVs, rg_nns, rg_bs, cond_true, cond_false]
          rw [if_neg z, if_neg (by decide)]
          try simp only [rg_gR_0_7, rg_gR_0_8, rg_hp1, rg_o_12, Int.reduceToNat, rg_kIs, rg_kLs, rg_kRs, rg_kVs, rg_nns, rg_bs, cond_true, cond_false]
          rw [e1]
          try simp only [Int.reduceToNat, rg_kIs, rg_kLs, rg_kRs, rg_kVs, rg_nns, rg_bs, cond_true, cond_false]
          rw [if_pos (by decide)]
          try simp only [rg_gR_0_7, rg_gR_0_9, rg_hp1, rg_o_12, Int.reduceToNat, rg_kIs, rg_kLs, rg_kRs, rg_kVs, rg_nns, rg_bs, cond_true, cond_false]
          rw [f1]
          try simp only [rg_pI_0, Int.reduceToNat, rg_kIs, rg_kLs, rg_kRs, rg_kVs, rg_nns, rg_bs, cond_true, cond_false]
          rw [← hD3]
          try simp only [rg_gR_0_3, rg_hp1, rg_row_o rg_row_4, Int.reduceToNat, rg_kIs, rg_kLs, rg_kRs, rg_kVs, rg_nns, rg_bs, cond_true, cond_false]
          rw [r1]
          try simp only [Int.reduceToNat, rg_kIs, rg_kLs, rg_kRs, rg_kVs, rg_nns, rg_bs, cond_true, cond_false]
          rw [t1, rf_e_W_train_77, if_neg (by decide)]
          try simp only [rg_hp1, rg_o_0, Int.reduceToNat, rg_kIs, rg_kLs, rg_kRs, rg_kVs, rg_nns, rg_bs, cond_true, cond_false]
          rw [b1]
          try simp only [rg_gR_0_10, rg_T_gI rg_tr_43, Int.reduceToNat, rg_kIs, rg_kLs, rg_kRs, rg_kVs, rg_nns, rg_bs, cond_true, cond_false]
          rw [← hD6, hD6, rg_up_s, f6]
        · rw [rf_e_M_train, rg_M_isText]
          try simp only [if_pos hr, Int.reduceToNat, rg_kIs, rg_kLs, rg_kRs, rg_kVs, rg_nns, rg_bs, cond_true, cond_false]
          rw [if_neg (by decide)]
          try simp only [rg_gR_77_2, Int.reduceToNat, rg_kIs, rg_kLs, rg_kRs, rg_kVs, rg_nns, rg_bs, cond_true, cond_false]
          rw [rg_aI_80 (by omega) (by omega)]
          try simp only [Int.reduceToNat, rg_kIs, rg_kLs, rg_kRs, rg_kVs, rg_nns, rg_bs, cond_true, cond_false]
          rw [rg_tN, D6D 80 (by decide) (by decide) (by decide) (by decide) (by decide), q1, if_neg z]
          try simp only [rg_hp1, rg_o_77, Int.reduceToNat, rg_kIs, rg_kLs, rg_kRs, rg_kVs, rg_nns, rg_bs, cond_true, cond_false]
          rw [m1]
          try simp only [Int.reduceToNat, rg_kIs, rg_kLs, rg_kRs, rg_kVs, rg_nns, rg_bs, cond_true, cond_false]
          rw [if_pos (by decide), ← hD7, l39, l66, D882 36 (by decide)]
        · have hh : ∀ j, j < 27 → D9 82 j = G j := fun j hj => D982 j (by omega)
          have e28 : D9 28 = D5 28 := by rw [D96 28 (by decide) (by decide) (by decide) (by decide), D6n 28 (by decide)]
          have e31 : D9 31 1 = G 36 := by rw [D96 31 (by decide) (by decide) (by decide) (by decide), D6n 31 (by decide)]; exact D531
          have b8 : D5 28 8 = G 27 := by rw [D528, ce.2.1]
          have b9 : D5 28 9 = G 28 := by rw [D528, ce.2.2.1]
          have bg := P.bg hh
          have z2 : G 2 ≤ 6 := (P 2 (by decide)).2
          have hY : IYes D9 := by
            unfold IYes
            rw [e28, e31]
            refine ⟨sp_hd_of hdG hh, ?_, a8, a9, ?_, ⟨0, ?_, ⟨by decide, fun k hk => by omega⟩, ?_, fun j hj => ?_, fun k hk => by omega⟩, fun k hk => Or.inl ⟨?_, ?_⟩⟩
            · rw [← D531]
              exact (cr5.ofs z2 hh).of fun a y1 y2 => by rw [D96 a (by omega) (by omega) (by omega) (by omega), D6n a (by omega)]
            · have e43 : D9 43 = f' := by rw [D96 43 (by decide) (by decide) (by decide) (by decide), hD6, rg_up_s]
              rw [e43]
              refine b2.ofs fun j j1 j2 => ?_
              rw [D982 j (by omega), bg j (by omega)]
              show sp_bg (D9 82) (G 27) (G 28) (G 36) j = sp_bg G (D5 28 8) (D5 28 9) (D5 31 1) j
              rw [b8, b9, D531]
              exact congrFun (sp_bg_of hh (G 27) (G 28) (G 36)) j
            · rw [D96 4 (by decide) (by decide) (by decide) (by decide), D6n 4 (by decide), D54]
              try rfl
            · rw [D982 37 (by decide)]
              exact Int.le_antisymm (P 37 (by decide)).2 (P 37 (by decide)).1
            · rw [D982 j (by omega), bg j hj, b8, b9]
              try rfl
            · rw [hD9, rg_up_s]
              show (if 0 ≤ k ∧ k < 3 then 0 else D8 84 k) = 0
              rw [if_pos ⟨Nat.zero_le _, hk⟩]
            · rw [D96 (64 + 2 * k) (by omega) (by omega) (by omega) (by omega), D6n (64 + 2 * k) (by omega)]
              exact t3 k (Nat.zero_le _) hk
          refine hI.tr (fun a y => ?_) (fun j y1 y2 => ?_) (fun j y1 y2 => ?_) (Or.inr ⟨?_, hY⟩)
          · rw [D96 a (by omega) (by omega) (by omega) (by omega), D6D a (by omega) (by omega) (by omega) (by omega) (by omega)]
          · rw [D96 0 (by decide) (by decide) (by decide) (by decide), D6n 0 (by decide), t2 0 (by decide), r2 0 (by decide) (by decide), hD3, rg_up_s, rg_ui_n (by omega), E2n 0 (by decide)]
          · rw [D9n 77 (by decide), D8n 77 (by decide), hD7, rg_up_n (by decide), rg_up_s, m2 j (by omega) (by omega) (by omega), D6D 77 (by decide) (by decide) (by decide) (by decide) (by decide)]
          · rw [D96 0 (by decide) (by decide) (by decide) (by decide), D6n 0 (by decide), t2 0 (by decide), r2 0 (by decide) (by decide), hD3, rg_up_s, rg_ui_s]
      · obtain ⟨f', m1, m2⟩ := rg_M_faultOf (X := X) (D := E) (t := R) (n := Z) (x := D (56 + 2 * R + 1)) (fun k hk => by rw [En 81 (by decide)]; exact (q4 k (by omega)).1) (by rw [En 80 (by decide), q1, hZ]) (by omega) (by omega) hb (d + 2)
        rw [En 87 (by decide), if_neg ok] at m1
        rw [if_neg ok] at e1
        refine ⟨-4, E, _, ?_, ?_, hI.scr (D' := rg_up (rg_up E 77 f') 87 (ps_all (D (56 + 2 * R + 1)) Z (ps_g0 (D 87))).2.2) (fun a _ _ _ _ h h2 h3 => ?_) ?_ ?_ (fun k z1 z2 => ?_)⟩
        · rw [rf_e_W_train]
          try simp only [rg_gR_0_1, Int.reduceToNat, rg_kIs, rg_kLs, rg_kRs, rg_kVs, rg_nns, rg_bs, cond_true, cond_false]
          rw [rg_W_pick_y (n := 4) (d + 6) (rg_aL_2 X D) hr row.2]
          try simp only [rg_hp1, rg_o_0, rg_row_o row.1, rg_nzs, Int.reduceToNat, rg_kIs, rg_kLs, rg_kRs, rg_kVs, rg_nns, rg_bs, cond_true, cond_false]
          rw [rg_R_isThere row.1]
          try simp only [Int.reduceToNat, rg_kIs, rg_kLs, rg_kRs, rg_kVs, rg_nns, rg_bs, cond_true, cond_false]
          rw [if_neg z, if_neg (by decide)]
          try simp only [rg_gR_0_7, rg_gR_0_8, rg_hp1, rg_o_12, Int.reduceToNat, rg_kIs, rg_kLs, rg_kRs, rg_kVs, rg_nns, rg_bs, cond_true, cond_false]
          rw [e1]
          try simp only [Int.reduceToNat, rg_kIs, rg_kLs, rg_kRs, rg_kVs, rg_nns, rg_bs, cond_true, cond_false]
          rw [if_neg (by omega)]
        · rw [rf_e_M_train, rg_M_isText]
          try simp only [if_pos hr, Int.reduceToNat, rg_kIs, rg_kLs, rg_kRs, rg_kVs, rg_nns, rg_bs, cond_true, cond_false]
          rw [if_neg (by decide)]
          try simp only [rg_gR_77_2, Int.reduceToNat, rg_kIs, rg_kLs, rg_kRs, rg_kVs, rg_nns, rg_bs, cond_true, cond_false]
          rw [rg_aI_80 (by omega) (by omega)]
          try simp only [Int.reduceToNat, rg_kIs, rg_kLs, rg_kRs, rg_kVs, rg_nns, rg_bs, cond_true, cond_false]
          rw [rg_tN, En 80 (by decide), q1, if_neg z]
          try simp only [rg_hp1, rg_o_77, Int.reduceToNat, rg_kIs, rg_kLs, rg_kRs, rg_kVs, rg_nns, rg_bs, cond_true, cond_false]
          rw [m1]
          try simp only [Int.reduceToNat, rg_kIs, rg_kLs, rg_kRs, rg_kVs, rg_nns, rg_bs, cond_true, cond_false]
          rw [if_neg (by omega)]
        · rw [rg_up_n (by omega), rg_up_n (by omega), En a h]
        · rw [rg_up_n (by decide), rg_up_n (by decide), En 8 (by decide)]
        · rw [rg_up_n (by decide), rg_up_n (by decide), En 10 (by decide)]
        · rw [rg_up_n (by decide), rg_up_s, m2 k (by omega) (by omega) (by omega), En 77 (by decide)]
  · refine ⟨-1, D, D, ?_, ?_, hI⟩
    · rw [rf_e_W_train]
      try simp only [rg_gR_0_1, Int.reduceToNat, rg_kIs, rg_kLs, rg_kRs, rg_kVs, rg_nns, rg_bs, cond_true, cond_false]
      rw [rg_W_pick_n (n := 4) (d + 6) (rg_aL_2 X D) hr]
      try simp only [rg_hp1, rg_o_0, rg_nzn, Int.reduceToNat, rg_kIs, rg_kLs, rg_kRs, rg_kVs, rg_nns, rg_bs, cond_true, cond_false]
    · rw [rf_e_M_train, rg_M_isText]
      try simp only [if_neg hr, Int.reduceToNat, rg_kIs, rg_kLs, rg_kRs, rg_kVs, rg_nns, rg_bs, cond_true, cond_false]
      rw [if_pos (by decide)]
end RGS13
