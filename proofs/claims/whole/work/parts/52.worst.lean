/-! steam, would, worst -/
theorem sp_ld1 {s : Nat → Int} (h : sp_hd s) {n : Nat} (hn : n ≤ 6) : 0 ≤ sp_load s n ∧ sp_load s n ≤ 1000 := by
  have a := sp_ld h hn
  exact ⟨a.1, by omega⟩
/-- the worst so far: which, by how much -/
def ws_v (s : Nat → Int) : Nat → Int × Int
  | 0 => (-9, 0)
  | k + 1 => if ls_v (sp_load s (k + 1)) = -9 then ws_v s k else if (ws_v s k).1 = -9 ∨ (ws_v s k).2 < 2 * ls_v (sp_load s (k + 1)) - sp_load s (k + 1) - (sp_holds s (k : Int) - sp_slack s (k : Int)) then ((k : Int), 2 * ls_v (sp_load s (k + 1)) - sp_load s (k + 1) - (sp_holds s (k : Int) - sp_slack s (k : Int))) else ws_v s k
theorem ws_b {s : Nat → Int} (h : sp_hd s) : ∀ {k : Nat}, k ≤ 6 → ((ws_v s k).1 = -9 ∧ (ws_v s k).2 = 0) ∨ ((0 ≤ (ws_v s k).1 ∧ (ws_v s k).1 ≤ 6) ∧ (-9 ≤ (ws_v s k).2 ∧ (ws_v s k).2 ≤ 3))
  | 0, _ => Or.inl ⟨rfl, rfl⟩
  | k + 1, hk => by
    have ih := ws_b h (k := k) (by omega)
    have L := sp_ld1 h (n := k + 1) hk
    have B := ls_b L.1 L.2
    have G := sp_hb h (i := (k : Int)) (by omega) (by omega)
    have e : ws_v s (k + 1) = (if ls_v (sp_load s (k + 1)) = -9 then ws_v s k else if (ws_v s k).1 = -9 ∨ (ws_v s k).2 < 2 * ls_v (sp_load s (k + 1)) - sp_load s (k + 1) - (sp_holds s (k : Int) - sp_slack s (k : Int)) then ((k : Int), 2 * ls_v (sp_load s (k + 1)) - sp_load s (k + 1) - (sp_holds s (k : Int) - sp_slack s (k : Int))) else ws_v s k) := rfl
    rw [e]
    clear e
    by_cases a : ls_v (sp_load s (k + 1)) = -9
    · rw [if_pos a]
      exact ih
    · rw [if_neg a]
      by_cases b : (ws_v s k).1 = -9 ∨ (ws_v s k).2 < 2 * ls_v (sp_load s (k + 1)) - sp_load s (k + 1) - (sp_holds s (k : Int) - sp_slack s (k : Int))
      · rw [if_pos b]
        refine Or.inr ⟨?_, ?_⟩
        · show 0 ≤ (k : Int) ∧ (k : Int) ≤ 6
          omega
        · show -9 ≤ 2 * ls_v (sp_load s (k + 1)) - sp_load s (k + 1) - (sp_holds s (k : Int) - sp_slack s (k : Int)) ∧ 2 * ls_v (sp_load s (k + 1)) - sp_load s (k + 1) - (sp_holds s (k : Int) - sp_slack s (k : Int)) ≤ 3
          omega
      · rw [if_neg b]
        exact ih
def wm_v (s : Nat → Int) (k : Nat) : Int := if (ws_v s k).1 = -9 then 0 else (ws_v s k).2 + 100
section RGS16
variable {X : rf_X} {D : rf_D} {s : Nat → Int} {W : Int}
theorem rg_W_worst_7 (hC : CR D 28 s W) (hd : sp_hd s) (hT : TR (D 43) s 0) (hb : s 31 = 0 ∨ s 31 = 1) (d : Nat) {N : Nat} (hN : s 36 = (N : Int)) (hW : (N : Int) ≤ W) : ∀ (k i : Nat), i + k = N → rf_j_W_worst_7 (d + 3) 0 (ws_v s i).1 (ws_v s i).2 (i : Int) (hp X D) = rf_j_W_worst_7 (d + 3) 0 (ws_v s N).1 (ws_v s N).2 (N : Int) (hp X D)
  | 0, i, hk => by rw [show i = N by omega]
  | k + 1, i, hk => by
    have W6 := hC.2.2.2.1.2
    have ih := rg_W_worst_7 hC hd hT hb d hN hW k (i + 1) (by omega)
    have x2 : rf_w ((i : Int) + 1) = ((i + 1 : Nat) : Int) := by
      rw [rg_w (by omega) (by omega)]
      omega
    have L := sp_ld1 hd (n := i + 1) (by omega)
    have B := ls_b L.1 L.2
    have lo := rg_T_loadOf (X := X) (D := D) rg_tr_43 hC (d + 1) (n := ((i + 1 : Nat) : Int)) (by omega) (by omega) hT.2.1.2.1 hb
    rw [rg_tN] at lo
    have sn : ¬ ls_v (sp_load s (i + 1)) = -9 → rf_call (d + 3) 44 [.inr (.inr (some 43)), .inl (i : Int), .inl (ls_v (sp_load s (i + 1)))] (hp X D) = some (some (.inl (2 * ls_v (sp_load s (i + 1)) - sp_load s (i + 1) - (sp_holds s (i : Int) - sp_slack s (i : Int)))), hp X D) := fun z => by
      have r := rg_T_strainOf (X := X) (D := D) rg_tr_43 hC hd d (i := (i : Int)) (st := ls_v (sp_load s (i + 1))) (by omega) (by omega) hT.2.1.2.1 hb (by omega) (by omega)
      rw [show ((i : Int) + 1).toNat = i + 1 by omega] at r
      exact r
    have e : ws_v s (i + 1) = (if ls_v (sp_load s (i + 1)) = -9 then ws_v s i else if (ws_v s i).1 = -9 ∨ (ws_v s i).2 < 2 * ls_v (sp_load s (i + 1)) - sp_load s (i + 1) - (sp_holds s (i : Int) - sp_slack s (i : Int)) then ((i : Int), 2 * ls_v (sp_load s (i + 1)) - sp_load s (i + 1) - (sp_holds s (i : Int) - sp_slack s (i : Int))) else ws_v s i) := rfl
    rw [← ih, rf_e_W_worst_7]
    clear ih
    try simp only [rg_gR_0_10, rg_T_gI rg_tr_43, Int.reduceToNat, rg_kIs, rg_kLs, rg_kRs, rg_kVs, rg_nns, rg_bs, cond_true, cond_false]
    rw [hT.2.2.2.2.2, hN, if_pos (by omega)]
    try simp only [rg_gR_0_10, rg_hp1, rg_tr_43.1, Int.reduceToNat, rg_kIs, rg_kLs, rg_kRs, rg_kVs, rg_nns, rg_bs, cond_true, cond_false, x2]
    rw [lo]
    try simp only [Int.reduceToNat, rg_kIs, rg_kLs, rg_kRs, rg_kVs, rg_nns, rg_bs, cond_true, cond_false]
    rw [rg_W_least (d + 2) L.1 L.2]
    try simp only [Int.reduceToNat, rg_kIs, rg_kLs, rg_kRs, rg_kVs, rg_nns, rg_bs, cond_true, cond_false]
    rw [e]
    by_cases a : ls_v (sp_load s (i + 1)) = -9
    · rw [if_pos a, if_pos a]
    · rw [if_neg a, if_neg a]
      by_cases b : (ws_v s i).1 = -9
      · rw [if_pos b, if_pos (Or.inl b)]
        try simp only [rg_gR_0_10, rg_hp1, rg_tr_43.1, Int.reduceToNat, rg_kIs, rg_kLs, rg_kRs, rg_kVs, rg_nns, rg_bs, cond_true, cond_false]
        rw [sn a]
        try simp only [Int.reduceToNat, rg_kIs, rg_kLs, rg_kRs, rg_kVs, rg_nns, rg_bs, cond_true, cond_false]
      · rw [if_neg b]
        try simp only [rg_gR_0_10, rg_hp1, rg_tr_43.1, Int.reduceToNat, rg_kIs, rg_kLs, rg_kRs, rg_kVs, rg_nns, rg_bs, cond_true, cond_false]
        rw [sn a]
        try simp only [Int.reduceToNat, rg_kIs, rg_kLs, rg_kRs, rg_kVs, rg_nns, rg_bs, cond_true, cond_false]
        by_cases c : (ws_v s i).2 < 2 * ls_v (sp_load s (i + 1)) - sp_load s (i + 1) - (sp_holds s (i : Int) - sp_slack s (i : Int))
        · rw [if_pos c, if_pos (Or.inr c)]
          try simp only [rg_gR_0_10, rg_hp1, rg_tr_43.1, Int.reduceToNat, rg_kIs, rg_kLs, rg_kRs, rg_kVs, rg_nns, rg_bs, cond_true, cond_false]
          rw [sn a]
          try simp only [Int.reduceToNat, rg_kIs, rg_kLs, rg_kRs, rg_kVs, rg_nns, rg_bs, cond_true, cond_false]
        · rw [if_neg c, if_neg (fun z => z.elim b c)]
theorem rg_M_worst_11 (hd : sp_hd s) (hu : E37 (D 88) s) (d : Nat) {N : Nat} (hN : s 36 = (N : Int)) (hN6 : N ≤ 6) : ∀ (k i : Nat), i + k = N → rf_j_M_worst_11 (d + 3) 77 (wm_v s i) (ws_v s i).1 (i : Int) (hp X D) = rf_j_M_worst_11 (d + 3) 77 (wm_v s N) (ws_v s N).1 (N : Int) (hp X D)
  | 0, i, hk => by rw [show i = N by omega]
  | k + 1, i, hk => by
    have ih := rg_M_worst_11 hd hu d hN hN6 k (i + 1) (by omega)
    have x2 : rf_w ((i : Int) + 1) = ((i + 1 : Nat) : Int) := by
      rw [rg_w (by omega) (by omega)]
      omega
    have L := sp_ld1 hd (n := i + 1) (by omega)
    have B := ls_b L.1 L.2
    have G := sp_hb hd (i := (i : Int)) (by omega) (by omega)
    have Q := ws_b hd (k := i) (by omega)
    have lo := rg_M_loadOf (X := X) (D := D) d (n := ((i + 1 : Nat) : Int)) (by omega) (by omega)
    rw [rg_tN, hu.load (by omega)] at lo
    have sl := rg_M_slack (X := X) (D := D) (d + 1) (i := (i : Int)) (by omega) (by omega)
    have ho := rg_M_holds (X := X) (D := D) (d + 1) (i := (i : Int)) (by omega) (by omega)
    rw [(hu.wt (by omega)).2.2] at sl
    rw [(hu.wt (by omega)).2.1] at ho
    have e : ws_v s (i + 1) = (if ls_v (sp_load s (i + 1)) = -9 then ws_v s i else if (ws_v s i).1 = -9 ∨ (ws_v s i).2 < 2 * ls_v (sp_load s (i + 1)) - sp_load s (i + 1) - (sp_holds s (i : Int) - sp_slack s (i : Int)) then ((i : Int), 2 * ls_v (sp_load s (i + 1)) - sp_load s (i + 1) - (sp_holds s (i : Int) - sp_slack s (i : Int))) else ws_v s i) := rfl
    have j0 : ∀ z : Int, z = 0 → rf_j_M_worst_71 (d + 3) 77 (wm_v s i) (ws_v s i).1 (i : Int) z (hp X D) = rf_j_M_worst_11 (d + 3) 77 (wm_v s i) (ws_v s i).1 (rf_w ((i : Int) + 1)) (hp X D) := fun z hz => by
      have w0 : 0 ≤ wm_v s i := by
        unfold wm_v
        split <;> omega
      rw [rf_e_M_worst_71, if_neg (by omega), rg_M_greater]
      try simp only [Int.reduceToNat, rg_kIs, rg_kLs, rg_kRs, rg_kVs, rg_nns, rg_bs, cond_true, cond_false]
      by_cases y : z < wm_v s i
      · rw [if_pos y]
      · rw [if_neg y, show z = wm_v s i by omega]
    rw [← ih, rf_e_M_worst_11]
    clear ih
    try simp only [rg_gR_77_17, Int.reduceToNat, rg_kIs, rg_kLs, rg_kRs, rg_kVs, rg_nns, rg_bs, cond_true, cond_false]
    rw [rg_aI_88 (by decide) (by decide)]
    try simp only [Int.reduceToNat, rg_kIs, rg_kLs, rg_kRs, rg_kVs, rg_nns, rg_bs, cond_true, cond_false]
    rw [hu 36 (by decide), hN, if_pos (by omega)]
    try simp only [rg_hp1, rg_o_77, Int.reduceToNat, rg_kIs, rg_kLs, rg_kRs, rg_kVs, rg_nns, rg_bs, cond_true, cond_false, x2]
    rw [lo]
    try simp only [Int.reduceToNat, rg_kIs, rg_kLs, rg_kRs, rg_kVs, rg_nns, rg_bs, cond_true, cond_false]
    rw [rg_M_enough]
    try simp only [Int.reduceToNat, rg_kIs, rg_kLs, rg_kRs, rg_kVs, rg_nns, rg_bs, cond_true, cond_false]
    by_cases a : ls_v (sp_load s (i + 1)) = -9
    · have e1 : ws_v s (i + 1) = ws_v s i := by rw [e, if_pos a]
      have e2 : wm_v s (i + 1) = wm_v s i := by
        unfold wm_v
        rw [e1]
      rw [if_pos a, j0 0 rfl, e1, e2, x2]
    · rw [if_neg a]
      try simp only [rg_hp1, rg_o_77, Int.reduceToNat, rg_kIs, rg_kLs, rg_kRs, rg_kVs, rg_nns, rg_bs, cond_true, cond_false]
      rw [sl]
      try simp only [rg_hp1, rg_o_77, Int.reduceToNat, rg_kIs, rg_kLs, rg_kRs, rg_kVs, rg_nns, rg_bs, cond_true, cond_false]
      rw [ho]
      try simp only [Int.reduceToNat, rg_kIs, rg_kLs, rg_kRs, rg_kVs, rg_nns, rg_bs, cond_true, cond_false]
      rw [if_neg a] at e
      generalize sp_load s (i + 1) = l at *
      generalize ls_v l = v at *
      generalize sp_holds s (i : Int) = hh at *
      generalize sp_slack s (i : Int) = ss at *
      have y1 : rf_w (2 * v) = 2 * v := rg_w (by omega) (by omega)
      have y2 : rf_w (2 * v - l) = 2 * v - l := rg_w (by omega) (by omega)
      have y3 : rf_w (2 * v - l + ss) = 2 * v - l + ss := rg_w (by omega) (by omega)
      have y4 : rf_w (2 * v - l + ss - hh) = 2 * v - l + ss - hh := rg_w (by omega) (by omega)
      have y5 : rf_w (2 * v - l + ss - hh + 100) = 2 * v - l + ss - hh + 100 := rg_w (by omega) (by omega)
      rw [y1, y2, y3, y4, y5, rf_e_M_worst_71]
      by_cases b : (ws_v s i).1 = -9 ∨ (ws_v s i).2 < 2 * v - l - (hh - ss)
      · rw [if_pos b] at e
        have e3 : wm_v s (i + 1) = 2 * v - l + ss - hh + 100 := by
          unfold wm_v
          rw [e]
          show (if (i : Int) = -9 then 0 else 2 * v - l - (hh - ss) + 100) = _
          rw [if_neg (by omega)]
          omega
        have lt : wm_v s i < 2 * v - l + ss - hh + 100 := by
          unfold wm_v
          by_cases c : (ws_v s i).1 = -9
          · rw [if_pos c]
            omega
          · rw [if_neg c]
            omega
        rw [if_pos lt, rg_M_greater, if_neg (by omega), e3, e]
        try simp only [Int.reduceToNat, rg_kIs, rg_kLs, rg_kRs, rg_kVs, rg_nns, rg_bs, cond_true, cond_false, x2]
      · rw [if_neg b] at e
        have e3 : wm_v s (i + 1) = wm_v s i := by
          unfold wm_v
          rw [e]
        have b1 : ¬ (ws_v s i).1 = -9 := fun z => b (Or.inl z)
        have lt : ¬ wm_v s i < 2 * v - l + ss - hh + 100 := by
          unfold wm_v
          rw [if_neg b1]
          omega
        rw [if_neg lt, rg_M_greater, e3, e]
        by_cases c : 2 * v - l + ss - hh + 100 < wm_v s i
        · rw [if_pos c]
          try simp only [Int.reduceToNat, rg_kIs, rg_kLs, rg_kRs, rg_kVs, rg_nns, rg_bs, cond_true, cond_false, x2]
        · rw [if_neg c, show 2 * v - l + ss - hh + 100 = wm_v s i by omega]
          try simp only [Int.reduceToNat, rg_kIs, rg_kLs, rg_kRs, rg_kVs, rg_nns, rg_bs, cond_true, cond_false, x2]
theorem st_would (hI : Inv D) (d : Nat) (a : Int) : Ag X D (d + 8) 85 168 [.inl a] := by
  unfold Ag
  by_cases ht : 0 ≤ a ∧ a ≤ 9
  · rcases hI.2.2.2.2 with ⟨h12, hN⟩ | ⟨h12, hY⟩
    · refine ⟨-4, D, D, ?_, ?_, hI⟩
      · rw [rf_e_W_would, if_neg (by omega), if_neg (by omega)]
        try simp only [rg_gI_0, Int.reduceToNat, rg_kIs, rg_kLs, rg_kRs, rg_kVs, rg_nns, rg_bs, cond_true, cond_false]
        rw [if_pos h12]
      · rw [rf_e_M_would, rg_M_in]
        try simp only [Int.reduceToNat, rg_kIs, rg_kLs, rg_kRs, rg_kVs, rg_nns, rg_bs, cond_true, cond_false]
        rw [if_pos ht, if_neg (by decide)]
        try simp only [rg_hp1, rg_o_77, Int.reduceToNat, rg_kIs, rg_kLs, rg_kRs, rg_kVs, rg_nns, rg_bs, cond_true, cond_false]
        rw [rg_M_isTrain, hN.1 0 (by decide)]
        try simp only [Int.reduceToNat, rg_kIs, rg_kLs, rg_kRs, rg_kVs, rg_nns, rg_bs, cond_true, cond_false]
        rw [if_pos (by decide)]
    · obtain ⟨hd, hC, ha, hb, hT, ⟨m, h4, hDE, hL⟩, -⟩ := hY
      have st := hL.st hDE.1 ha hb hC.2.2.2.1
      have m60 := hDE.1
      have z1 : 1 ≤ D 82 2 ∧ D 82 2 ≤ 6 := hd.2.2.1
      have b33 := st.1.2.2.2.2.2.2.1
      have rl := sp_rail_02 hd st.1
      have h0 : 0 < D 82 0 := by
        have := hd.1.1
        omega
      obtain ⟨u, hu⟩ : ∃ u, u = sp_first (D 88) (D 82) 37 := ⟨_, rfl⟩
      have E1 : E37 u (D 82) := by
        rw [hu]
        exact sp_first_E _ _
      have rE := E1.rail (by rw [st.2.2]; omega) z1.1 z1.2
      have w1 := rg_T_rail (X := X) (D := D) rg_tr_43 hC hd st.1 (by omega) (d + 4) hT.2.2.2.1
      have w2 := rg_T_comesOf (X := X) (D := D) rg_tr_43 hC hd hT st.1 st.2.1 (d + 3) (st := a) (r := sp_rail (D 82)) ht.1 ht.2 rl.1 rl.2
      refine ⟨(sp_gives (D 82) a (sp_rail (D 82))).1, D, rg_up D 88 (sp_gives u a (sp_rail (D 82))).2, ?_, ?_, hI.s88 _⟩
      · rw [rf_e_W_would, if_neg (by omega), if_neg (by omega)]
        try simp only [rg_gI_0, Int.reduceToNat, rg_kIs, rg_kLs, rg_kRs, rg_kVs, rg_nns, rg_bs, cond_true, cond_false]
        rw [if_neg (by omega)]
        try simp only [rg_gR_0_10, rg_hp1, rg_tr_43.1, Int.reduceToNat, rg_kIs, rg_kLs, rg_kRs, rg_kVs, rg_nns, rg_bs, cond_true, cond_false]
        rw [w1]
        try simp only [rg_hp1, rg_tr_43.1, Int.reduceToNat, rg_kIs, rg_kLs, rg_kRs, rg_kVs, rg_nns, rg_bs, cond_true, cond_false]
        rw [w2]
        try simp only [Int.reduceToNat, rg_kIs, rg_kLs, rg_kRs, rg_kVs, rg_nns, rg_bs, cond_true, cond_false]
      · rw [rf_e_M_would, rg_M_in]
        try simp only [Int.reduceToNat, rg_kIs, rg_kLs, rg_kRs, rg_kVs, rg_nns, rg_bs, cond_true, cond_false]
        rw [if_pos ht, if_neg (by decide)]
        try simp only [rg_hp1, rg_o_77, Int.reduceToNat, rg_kIs, rg_kLs, rg_kRs, rg_kVs, rg_nns, rg_bs, cond_true, cond_false]
        rw [rg_M_isTrain, if_pos h0]
        try simp only [Int.reduceToNat, rg_kIs, rg_kLs, rg_kRs, rg_kVs, rg_nns, rg_bs, cond_true, cond_false]
        rw [if_neg (by decide)]
        try simp only [rg_hp1, rg_o_77, Int.reduceToNat, rg_kIs, rg_kLs, rg_kRs, rg_kVs, rg_nns, rg_bs, cond_true, cond_false]
        rw [rg_M_take, ← hu]
        try simp only [rg_hp1, rg_o_77, Int.reduceToNat, rg_kIs, rg_kLs, rg_kRs, rg_kVs, rg_nns, rg_bs, cond_true, cond_false]
        rw [rg_M_railNow (d + 6) (by rw [rg_up_s, E1 34 (by decide), st.2.2]; omega) (by rw [rg_up_s, E1 2 (by decide)]; exact z1.1) (by rw [rg_up_s, E1 2 (by decide)]; exact z1.2), rg_up_s, rE]
        try simp only [rg_hp1, rg_o_77, Int.reduceToNat, rg_kIs, rg_kLs, rg_kRs, rg_kVs, rg_nns, rg_bs, cond_true, cond_false]
        rw [rg_M_gives (d + 3) _ _ (by rw [rg_up_s, E1 33 (by decide)]; exact b33.1) (by rw [rg_up_s, E1 33 (by decide), E1 36 (by decide)]; exact b33.2.1) (by rw [rg_up_s, E1 36 (by decide)]; exact b33.2.2), rg_up_s, rg_up_u, E1.gives b33.1 (by omega)]
        try simp only [Int.reduceToNat, rg_kIs, rg_kLs, rg_kRs, rg_kVs, rg_nns, rg_bs, cond_true, cond_false]
  · refine ⟨-1, D, D, ?_, ?_, hI⟩
    · rw [rf_e_W_would]
      by_cases b : a < 0
      · rw [if_pos b]
      · rw [if_neg b, if_pos (by omega)]
    · rw [rf_e_M_would, rg_M_in]
      try simp only [if_neg ht, Int.reduceToNat, rg_kIs, rg_kLs, rg_kRs, rg_kVs, rg_nns, rg_bs, cond_true, cond_false]
      rw [if_pos (by decide)]
theorem st_steam (hI : Inv D) (d : Nat) : Ag X D (d + 8) 84 166 [] := by
  unfold Ag
  rcases hI.2.2.2.2 with ⟨h12, hN⟩ | ⟨h12, hY⟩
  · refine ⟨-4, D, D, ?_, ?_, hI⟩
    · rw [rf_e_W_steam]
      try simp only [rg_gI_0, Int.reduceToNat, rg_kIs, rg_kLs, rg_kRs, rg_kVs, rg_nns, rg_bs, cond_true, cond_false]
      rw [if_pos h12]
    · rw [rf_e_M_steam]
      try simp only [rg_hp1, rg_o_77, Int.reduceToNat, rg_kIs, rg_kLs, rg_kRs, rg_kVs, rg_nns, rg_bs, cond_true, cond_false]
      rw [rg_M_isTrain, hN.1 0 (by decide)]
      try simp only [Int.reduceToNat, rg_kIs, rg_kLs, rg_kRs, rg_kVs, rg_nns, rg_bs, cond_true, cond_false]
      rw [if_pos (by decide)]
  · obtain ⟨hd, hC, ha, hb, hT, ⟨m, h4, hDE, hL⟩, -⟩ := hY
    have st := hL.st hDE.1 ha hb hC.2.2.2.1
    have m60 := hDE.1
    have z1 : 1 ≤ D 82 2 ∧ D 82 2 ≤ 6 := hd.2.2.1
    have b33 := st.1.2.2.2.2.2.2.1
    have rl := sp_rail_02 hd st.1
    have h0 : 0 < D 82 0 := by
      have := hd.1.1
      omega
    obtain ⟨u, hu⟩ : ∃ u, u = sp_first (D 88) (D 82) 37 := ⟨_, rfl⟩
    have E1 : E37 u (D 82) := by
      rw [hu]
      exact sp_first_E _ _
    have rE := E1.rail (by rw [st.2.2]; omega) z1.1 z1.2
    have w1 := rg_T_rail (X := X) (D := D) rg_tr_43 hC hd st.1 (by omega) (d + 4) hT.2.2.2.1
    have w3 := rg_T_gripOn (X := X) (D := D) rg_tr_43 hC hd st.1 (d + 5) (b := D 43 9) rl.1 rl.2 hT.1.2.2
    rw [hT.2.1.1, sp_gripb hd st.1 rl.1 rl.2] at w3
    have gb := (sp_gb hd st.1 rl.1 rl.2).2
    obtain ⟨a, hA⟩ : ∃ a : Int, a = (if D 82 33 + 1 < D 82 36 then D 82 33 + 1 else D 82 36) := ⟨_, rfl⟩
    have hA2 : 0 ≤ a ∧ a ≤ D 82 36 := by
      rw [hA]
      split <;> omega
    have L := sp_ld1 hd (n := a.toNat) (by omega)
    have w4 := rg_T_loadOf (X := X) (D := D) rg_tr_43 hC (d + 5) (n := a) hA2.1 (by omega) hT.2.1.2.1 st.1.2.2.2.2.1
    have x33 : rf_w (D 82 33 + 1) = D 82 33 + 1 := rg_w (by omega) (by omega)
    have xg : rf_w (Int.tdiv (sp_grip (D 82) (sp_rail (D 82))) 2) = sp_grip (D 82) (sp_rail (D 82)) / 2 := by
      have e : Int.tdiv (sp_grip (D 82) (sp_rail (D 82))) 2 = sp_grip (D 82) (sp_rail (D 82)) / 2 := Int.tdiv_eq_ediv_of_nonneg gb.1
      rw [e, rg_w (by omega) (by omega)]
    have e82 : ∀ v, wtl v D 82 = D 82 := fun v => wtl_n (by decide)
    have e88 : ∀ v, wtl v D 88 = D 88 := fun v => wtl_n (by decide)
    have hI2 := (hI.s88 u).tl (ls_v (sp_load (D 82) a.toNat))
    generalize hg : sp_grip (D 82) (sp_rail (D 82)) = g at w3 gb xg
    refine ⟨if g / 2 < 9 then g / 2 else 9, wtl (ls_v (sp_load (D 82) a.toNat)) D, _, ?_, ?_, hI2⟩
    · rw [rf_e_W_steam]
      try simp only [rg_gI_0, Int.reduceToNat, rg_kIs, rg_kLs, rg_kRs, rg_kVs, rg_nns, rg_bs, cond_true, cond_false]
      rw [if_neg (by omega)]
      try simp only [rg_gR_0_10, rg_T_gI rg_tr_43, Int.reduceToNat, rg_kIs, rg_kLs, rg_kRs, rg_kVs, rg_nns, rg_bs, cond_true, cond_false]
      rw [hT.2.2.1, hT.2.2.2.2.2, x33, rg_J_min]
      have eA : (if D 82 36 < D 82 33 + 1 then D 82 36 else D 82 33 + 1) = a := by
        rw [hA]
        split <;> split <;> omega
      rw [eA]
      try simp only [rg_gR_0_10, rg_hp1, rg_tr_43.1, Int.reduceToNat, rg_kIs, rg_kLs, rg_kRs, rg_kVs, rg_nns, rg_bs, cond_true, cond_false]
      rw [w4]
      try simp only [Int.reduceToNat, rg_kIs, rg_kLs, rg_kRs, rg_kVs, rg_nns, rg_bs, cond_true, cond_false]
      rw [rg_W_least (d + 6) L.1 L.2]
      try simp only [rg_gR_0_10, rg_hp1, rg_tr_43.1, Int.reduceToNat, rg_kIs, rg_kLs, rg_kRs, rg_kVs, rg_nns, rg_bs, cond_true, cond_false]
      rw [w1]
      try simp only [rg_gR_0_10, rg_T_gI rg_tr_43, rg_hp1, rg_tr_43.1, Int.reduceToNat, rg_kIs, rg_kLs, rg_kRs, rg_kVs, rg_nns, rg_bs, cond_true, cond_false]
      rw [hT.2.1.1, w3]
      try simp only [Int.reduceToNat, rg_kIs, rg_kLs, rg_kRs, rg_kVs, rg_nns, rg_bs, cond_true, cond_false]
      rw [xg, rg_J_min]
      try simp only [rg_hp1, rg_o_0, Int.reduceToNat, rg_kIs, rg_kLs, rg_kRs, rg_kVs, rg_nns, rg_bs, cond_true, cond_false]
      rw [rg_W_tell]
      try simp only [Int.reduceToNat, rg_kIs, rg_kLs, rg_kRs, rg_kVs, rg_nns, rg_bs, cond_true, cond_false]
    · rw [rf_e_M_steam]
      try simp only [rg_hp1, rg_o_77, Int.reduceToNat, rg_kIs, rg_kLs, rg_kRs, rg_kVs, rg_nns, rg_bs, cond_true, cond_false]
      rw [rg_M_isTrain, e82, if_pos h0]
      try simp only [Int.reduceToNat, rg_kIs, rg_kLs, rg_kRs, rg_kVs, rg_nns, rg_bs, cond_true, cond_false]
      rw [if_neg (by decide)]
      try simp only [rg_hp1, rg_o_77, Int.reduceToNat, rg_kIs, rg_kLs, rg_kRs, rg_kVs, rg_nns, rg_bs, cond_true, cond_false]
      rw [rg_M_take, e82, e88, ← hu]
      try simp only [rg_hp1, rg_o_77, Int.reduceToNat, rg_kIs, rg_kLs, rg_kRs, rg_kVs, rg_nns, rg_bs, cond_true, cond_false]
      rw [rg_M_railNow (d + 6) (by rw [rg_up_s, E1 34 (by decide), st.2.2]; omega) (by rw [rg_up_s, E1 2 (by decide)]; exact z1.1) (by rw [rg_up_s, E1 2 (by decide)]; exact z1.2), rg_up_s, rE]
      try simp only [rg_hp1, rg_o_77, Int.reduceToNat, rg_kIs, rg_kLs, rg_kRs, rg_kVs, rg_nns, rg_bs, cond_true, cond_false]
      rw [rg_M_gripOn (d + 5), rg_up_s, E1.grip, hg]
      try simp only [Int.reduceToNat, rg_kIs, rg_kLs, rg_kRs, rg_kVs, rg_nns, rg_bs, cond_true, cond_false]
      rw [xg, rg_M_lesser]
      try simp only [rg_gR_77_17, Int.reduceToNat, rg_kIs, rg_kLs, rg_kRs, rg_kVs, rg_nns, rg_bs, cond_true, cond_false]
      rw [rg_aI_88 (by decide) (by decide)]
      try simp only [Int.reduceToNat, rg_kIs, rg_kLs, rg_kRs, rg_kVs, rg_nns, rg_bs, cond_true, cond_false]
      rw [rg_aI_88 (by decide) (by decide)]
      try simp only [Int.reduceToNat, rg_kIs, rg_kLs, rg_kRs, rg_kVs, rg_nns, rg_bs, cond_true, cond_false]
      rw [rg_up_s, E1 33 (by decide), E1 36 (by decide), x33, rg_M_lesser, ← hA]
      try simp only [rg_hp1, rg_o_77, Int.reduceToNat, rg_kIs, rg_kLs, rg_kRs, rg_kVs, rg_nns, rg_bs, cond_true, cond_false]
      rw [rg_M_loadOf (d + 4) hA2.1 (by omega), rg_up_s, E1.load (by omega)]
      try simp only [Int.reduceToNat, rg_kIs, rg_kLs, rg_kRs, rg_kVs, rg_nns, rg_bs, cond_true, cond_false]
      rw [rg_M_enough]
      try simp only [rg_hp1, rg_o_77, Int.reduceToNat, rg_kIs, rg_kLs, rg_kRs, rg_kVs, rg_nns, rg_bs, cond_true, cond_false]
      rw [rf_e_M_answers, rg_pI_77]
      try simp only [Int.reduceToNat, rg_kIs, rg_kLs, rg_kRs, rg_kVs, rg_nns, rg_bs, cond_true, cond_false]
      rw [rg_tl0 (by decide)]
      have eq : (if 9 < g / 2 then 9 else g / 2) = (if g / 2 < 9 then g / 2 else 9) := by
        split <;> split <;> omega
      rw [eq]
      try rfl
theorem st_worst (hI : Inv D) (d : Nat) : Ag X D (d + 8) 86 169 [] := by
  unfold Ag
  have hw := hI.2.2.2.2.wag
  obtain ⟨u, hu⟩ : ∃ u, u = sp_first (D 88) (D 82) 37 := ⟨_, rfl⟩
  have E1 : E37 u (D 82) := by
    rw [hu]
    exact sp_first_E _ _
  rcases hI.2.2.2.2 with ⟨h12, hN⟩ | ⟨h12, hY⟩
  · have n36 := hN.1 36 (by decide)
    refine ⟨-9, D, rg_up D 88 u, ?_, ?_, hI.s88 _⟩
    · rw [rf_e_W_worst, rf_e_W_worst_7]
      try simp only [rg_gR_0_10, rg_T_gI rg_tr_43, Int.reduceToNat, rg_kIs, rg_kLs, rg_kRs, rg_kVs, rg_nns, rg_bs, cond_true, cond_false]
      rw [hw.1, n36, if_neg (by decide), if_pos (by decide)]
    · rw [rf_e_M_worst]
      try simp only [rg_hp1, rg_o_77, Int.reduceToNat, rg_kIs, rg_kLs, rg_kRs, rg_kVs, rg_nns, rg_bs, cond_true, cond_false]
      rw [rg_M_take, ← hu]
      try simp only [Int.reduceToNat, rg_kIs, rg_kLs, rg_kRs, rg_kVs, rg_nns, rg_bs, cond_true, cond_false]
      rw [rf_e_M_worst_11]
      try simp only [rg_gR_77_17, Int.reduceToNat, rg_kIs, rg_kLs, rg_kRs, rg_kVs, rg_nns, rg_bs, cond_true, cond_false]
      rw [rg_aI_88 (by decide) (by decide)]
      try simp only [Int.reduceToNat, rg_kIs, rg_kLs, rg_kRs, rg_kVs, rg_nns, rg_bs, cond_true, cond_false]
      rw [rg_up_s, E1 36 (by decide), n36, if_neg (by decide), if_pos (by decide)]
  · obtain ⟨hd, hC, ha, hb, hT, ⟨m, h4, hDE, hL⟩, -⟩ := hY
    have st := hL.st hDE.1 ha hb hC.2.2.2.1
    obtain ⟨N, hN⟩ := Int.eq_ofNat_of_zero_le hw.2.1
    have N6 : N ≤ 6 := by omega
    have B := ws_b hd N6
    have l1 := rg_W_worst_7 (X := X) hC hd hT st.1.2.2.2.2.1 (d + 4) hN (by omega) N 0 (by omega)
    have l2 := fun D' (h : E37 (D' 88) (D 82)) => rg_M_worst_11 (X := X) (D := D') hd h (d + 4) hN N6 N 0 (by omega)
    have z : ((0 : Nat) : Int) = 0 := rfl
    have zw : wm_v (D 82) 0 = 0 := rfl
    have z1 : (ws_v (D 82) 0).1 = -9 := rfl
    have z2 : (ws_v (D 82) 0).2 = 0 := rfl
    rw [z, z1, z2] at l1
    rw [z, z1, zw] at l2
    have M : ∀ v, rf_call (d + 8) 169 [.inr (.inr (some 77))] (hp X (wtl v D)) = rf_j_M_worst_11 (d + 7) 77 (wm_v (D 82) N) (ws_v (D 82) N).1 (N : Int) (hp X (wtl v (rg_up D 88 u))) := fun v => by
      rw [rf_e_M_worst]
      try simp only [rg_hp1, rg_o_77, Int.reduceToNat, rg_kIs, rg_kLs, rg_kRs, rg_kVs, rg_nns, rg_bs, cond_true, cond_false]
      rw [rg_M_take, show wtl v D 88 = D 88 from wtl_n (by decide), show wtl v D 82 = D 82 from wtl_n (by decide), ← hu, rg_tl0 (by decide)]
      exact l2 _ (by rw [show wtl v (rg_up D 88 u) 88 = rg_up D 88 u 88 from wtl_n (by decide), rg_up_s]; exact E1)
    by_cases c : (ws_v (D 82) N).1 = -9
    · refine ⟨-9, D, rg_up D 88 u, ?_, ?_, hI.s88 _⟩
      · rw [rf_e_W_worst]
        refine l1.trans ?_
        rw [rf_e_W_worst_7]
        try simp only [rg_gR_0_10, rg_T_gI rg_tr_43, Int.reduceToNat, rg_kIs, rg_kLs, rg_kRs, rg_kVs, rg_nns, rg_bs, cond_true, cond_false]
        rw [hw.1, hN, if_neg (by omega), if_pos c]
      · have e0 : D = wtl (D 0 13) D := by
          unfold wtl
          rw [rg_ui_i, rg_up_i]
        have M0 := M (D 0 13)
        rw [← e0] at M0
        refine M0.trans ?_
        have e1 : wtl (D 0 13) (rg_up D 88 u) = rg_up D 88 u := by
          rw [← rg_tl0 (by decide), ← e0]
        rw [e1, rf_e_M_worst_11]
        try simp only [rg_gR_77_17, Int.reduceToNat, rg_kIs, rg_kLs, rg_kRs, rg_kVs, rg_nns, rg_bs, cond_true, cond_false]
        rw [rg_aI_88 (by decide) (by decide)]
        try simp only [Int.reduceToNat, rg_kIs, rg_kLs, rg_kRs, rg_kVs, rg_nns, rg_bs, cond_true, cond_false]
        rw [rg_up_s, E1 36 (by decide), hN, if_neg (by omega), if_pos c]
    · have wmv : wm_v (D 82) N = (ws_v (D 82) N).2 + 100 := by
        unfold wm_v
        rw [if_neg c]
      have x1 : rf_w ((ws_v (D 82) N).2 + 100) = (ws_v (D 82) N).2 + 100 := rg_w (by omega) (by omega)
      refine ⟨(ws_v (D 82) N).1, wtl (wm_v (D 82) N) D, mtl (wm_v (D 82) N) (wtl (wm_v (D 82) N) (rg_up D 88 u)), ?_, ?_, (hI.s88 u).tl _⟩
      · rw [rf_e_W_worst]
        refine l1.trans ?_
        rw [rf_e_W_worst_7]
        try simp only [rg_gR_0_10, rg_T_gI rg_tr_43, Int.reduceToNat, rg_kIs, rg_kLs, rg_kRs, rg_kVs, rg_nns, rg_bs, cond_true, cond_false]
        rw [hw.1, hN, if_neg (by omega), if_neg c]
        try simp only [rg_hp1, rg_o_0, Int.reduceToNat, rg_kIs, rg_kLs, rg_kRs, rg_kVs, rg_nns, rg_bs, cond_true, cond_false]
        rw [rg_W_tell, x1, wmv]
        try simp only [Int.reduceToNat, rg_kIs, rg_kLs, rg_kRs, rg_kVs, rg_nns, rg_bs, cond_true, cond_false]
      · refine (M _).trans ?_
        rw [rf_e_M_worst_11]
        try simp only [rg_gR_77_17, Int.reduceToNat, rg_kIs, rg_kLs, rg_kRs, rg_kVs, rg_nns, rg_bs, cond_true, cond_false]
        rw [rg_aI_88 (by decide) (by decide)]
        try simp only [Int.reduceToNat, rg_kIs, rg_kLs, rg_kRs, rg_kVs, rg_nns, rg_bs, cond_true, cond_false]
        rw [show ∀ v, wtl v (rg_up D 88 u) 88 = rg_up D 88 u 88 from fun v => wtl_n (by decide), rg_up_s, E1 36 (by decide), hN, if_neg (by omega), if_neg c]
        try simp only [rg_hp1, rg_o_77, Int.reduceToNat, rg_kIs, rg_kLs, rg_kRs, rg_kVs, rg_nns, rg_bs, cond_true, cond_false]
        rw [rf_e_M_answers, rg_pI_77]
        try simp only [Int.reduceToNat, rg_kIs, rg_kLs, rg_kRs, rg_kVs, rg_nns, rg_bs, cond_true, cond_false]
        try rfl
end RGS16
