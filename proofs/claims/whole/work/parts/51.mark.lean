/-! mark, steam, would, worst -/
/-- how many of a kind are ahead -/
def mn_v (s : Nat → Int) (a : Int) : Nat → Int
  | 0 => 0
  | k + 1 => if sp_kind s (k : Int) = a ∨ (a = 1 ∧ sp_kind s (k : Int) = 4) ∨ (a = 2 ∧ sp_kind s (k : Int) = 5) then rf_w (mn_v s a k + 1) else rf_w (mn_v s a k + 0)
theorem E37.mn {u s : Nat → Int} (h : E37 u s) (a : Int) : ∀ {k : Nat}, k ≤ 6 → mn_v u a k = mn_v s a k
  | 0, _ => rfl
  | k + 1, hk => by
    show (if sp_kind u (k : Int) = a ∨ (a = 1 ∧ sp_kind u (k : Int) = 4) ∨ (a = 2 ∧ sp_kind u (k : Int) = 5) then rf_w (mn_v u a k + 1) else rf_w (mn_v u a k + 0)) = (if sp_kind s (k : Int) = a ∨ (a = 1 ∧ sp_kind s (k : Int) = 4) ∨ (a = 2 ∧ sp_kind s (k : Int) = 5) then rf_w (mn_v s a k + 1) else rf_w (mn_v s a k + 0))
    rw [(h.kind (i := (k : Int)) (by omega)).1, h.mn a (by omega)]
theorem sl_pos {s : Nat → Int} {i : Int} : 0 < sp_slack s i ↔ (sp_kind s i = 2 ∨ ((2 : Int) = 1 ∧ sp_kind s i = 4) ∨ ((2 : Int) = 2 ∧ sp_kind s i = 5)) := by
  unfold sp_slack
  by_cases a : sp_kind s i = 2
  · rw [if_pos a]
    exact ⟨fun _ => Or.inl a, fun _ => by decide⟩
  · rw [if_neg a]
    by_cases b : sp_kind s i = 5
    · rw [if_pos b]
      exact ⟨fun _ => Or.inr (Or.inr ⟨rfl, b⟩), fun _ => by decide⟩
    · rw [if_neg b]
      refine ⟨fun h => absurd h (by decide), fun h => ?_⟩
      rcases h with h | h | h
      · exact absurd h a
      · exact absurd h.1 (by decide)
      · exact absurd h.2 b
/-- the least steam that is enough -/
def ls_v (L : Int) : Int := if 18 < L then -9 else rf_w (Int.tdiv (rf_w (L + 1)) 2)
theorem ls_e {L : Int} (h0 : 0 ≤ L) (h : L ≤ 1000) : rf_w (Int.tdiv (rf_w (L + 1)) 2) = (L + 1) / 2 := by
  have e : Int.tdiv (L + 1) 2 = (L + 1) / 2 := Int.tdiv_eq_ediv_of_nonneg (by omega)
  rw [rg_w (z := L + 1) (by omega) (by omega), e, rg_w (by omega) (by omega)]
theorem ls_b {L : Int} (h0 : 0 ≤ L) (h : L ≤ 1000) : (18 < L ∧ ls_v L = -9) ∨ (L ≤ 18 ∧ L ≤ 2 * ls_v L ∧ 2 * ls_v L ≤ L + 1 ∧ 0 ≤ ls_v L ∧ ls_v L ≤ 9) := by
  unfold ls_v
  rw [ls_e h0 h]
  by_cases a : 18 < L
  · rw [if_pos a]
    exact Or.inl ⟨a, rfl⟩
  · rw [if_neg a]
    exact Or.inr (by omega)
theorem rg_W_least (d : Nat) {L : Int} (h0 : 0 ≤ L) (h1 : L ≤ 1000) (h : rf_H) : rf_call (d + 1) 74 [.inl L] h = some (some (.inl (ls_v L)), h) := by
  rw [rf_e_W_leastSteam]
  unfold ls_v
  rw [ls_e h0 h1]
  by_cases a : 18 < L
  · rw [if_pos a, if_pos (by omega)]
  · rw [if_neg a, if_neg (by omega)]
theorem rg_M_enough (d : Nat) (L : Int) (h : rf_H) : rf_call (d + 1) 167 [.inl L] h = some (some (.inl (ls_v L)), h) := by
  rw [rf_e_M_enough]
  unfold ls_v
  split <;> rfl
theorem rg_mf88 {a : Int} {D : rf_D} {f : Nat → Int} : mfd a (rg_up D 88 f) = rg_up (mfd a D) 88 f := by
  unfold mfd
  rw [rg_up_n (show (77 : Nat) ≠ 88 by decide), rg_up_n (show (85 : Nat) ≠ 88 by decide), rg_up_c (show (88 : Nat) ≠ 77 by decide), rg_up_c (show (88 : Nat) ≠ 85 by decide)]
def mk_v (s : Nat → Int) (n : Nat) (a : Int) : Int := if a = 1 then sp_tons s (n : Int) else if a = 2 then mn_v s 2 n else if a = 3 then rf_w (Int.tdiv (rf_w (sp_weighs s (n : Int) + 1)) 2) else if a = 4 then rf_w (sp_coup s (n : Int) - sp_holds s (n : Int)) else rf_w (rf_w (s 36 - 1) - (n : Int))
theorem E37.mk {u s : Nat → Int} (h : E37 u s) {n : Nat} (hn : n ≤ 6) (a : Int) : mk_v u n a = mk_v s n a := by
  unfold mk_v
  rw [(h.kind (i := (n : Int)) (by omega)).2.1, (h.kind (i := (n : Int)) (by omega)).2.2, (h.wt (i := (n : Int)) (by omega)).1, (h.wt (i := (n : Int)) (by omega)).2.1, h.mn 2 hn, h 36 (by decide)]
theorem E37.gives {u s : Nat → Int} (h : E37 u s) (h0 : 0 ≤ s 33) (h6 : s 33 ≤ 6) (t r : Int) : (sp_gives u t r).1 = (sp_gives s t r).1 := by
  have e := pt_gives (w := u) h0 h6 (st := t) (r := r)
  rw [← pt_E h] at e
  rw [e]
section RGS15
variable {X : rf_X} {D : rf_D} {s : Nat → Int} {W : Int}
theorem rg_C_many_5 (hC : CR D 28 s W) (hd : sp_hd s) (d : Nat) (a : Int) {N : Nat} (hN : (N : Int) ≤ W) : ∀ (k i : Nat), i + k = N → rf_j_C_manyOf_5 (d + 2) 28 a (N : Int) (mn_v s a i) (i : Int) (hp X D) = some (some (.inl (mn_v s a N)), hp X D)
  | 0, i, hk => by
    rw [rf_e_C_manyOf_5, if_neg (by omega), show i = N by omega]
  | k + 1, i, hk => by
    have W6 := hC.2.2.2.1.2
    have w1 : D 31 1 = W := hC.2.2.1.1
    have ih := rg_C_many_5 hC hd d a hN k (i + 1) (by omega)
    have x2 : rf_w ((i : Int) + 1) = ((i + 1 : Nat) : Int) := by
      rw [rg_w (by omega) (by omega)]
      omega
    rw [rf_e_C_manyOf_5, if_pos (by omega)]
    try simp only [rg_gR_28_1, rg_row_gI rg_row_31, Int.reduceToNat, rg_kIs, rg_kLs, rg_kRs, rg_kVs, rg_nns, rg_bs, cond_true, cond_false]
    rw [w1, if_pos (by omega)]
    try simp only [rg_hp1, rg_con_28.1, Int.reduceToNat, rg_kIs, rg_kLs, rg_kRs, rg_kVs, rg_nns, rg_bs, cond_true, cond_false]
    rw [cr_is hC hd d (n := i) (by omega) a]
    try simp only [Int.reduceToNat, rg_kIs, rg_kLs, rg_kRs, rg_kVs, rg_nns, rg_bs, cond_true, cond_false, x2]
    have e : mn_v s a (i + 1) = (if sp_kind s (i : Int) = a ∨ (a = 1 ∧ sp_kind s (i : Int) = 4) ∨ (a = 2 ∧ sp_kind s (i : Int) = 5) then rf_w (mn_v s a i + 1) else rf_w (mn_v s a i + 0)) := rfl
    rw [e] at ih
    by_cases c : sp_kind s (i : Int) = a ∨ (a = 1 ∧ sp_kind s (i : Int) = 4) ∨ (a = 2 ∧ sp_kind s (i : Int) = 5)
    · rw [if_pos c] at ih ⊢
      rw [if_neg (by decide)]
      exact ih
    · rw [if_neg c] at ih ⊢
      rw [if_pos (by decide)]
      exact ih
theorem rg_C_many (hC : CR D 28 s W) (hd : sp_hd s) (d : Nat) (a : Int) {N : Nat} (hN : (N : Int) ≤ W) : rf_call (d + 3) 26 [.inr (.inr (some 28)), .inl a, .inl (N : Int)] (hp X D) = some (some (.inl (mn_v s a N)), hp X D) := by
  rw [rf_e_C_manyOf]
  exact rg_C_many_5 hC hd d a hN N 0 (by omega)
theorem rg_M_mk_loop (d : Nat) {N : Nat} (hN : N ≤ 6) (a : Int) : ∀ (k i : Nat), i + k = N → rf_j_M_mark_80 (d + 2) 77 (N : Int) a (mn_v (D 88) 2 i) (i : Int) (hp X D) = rf_j_M_mark_80 (d + 2) 77 (N : Int) a (mn_v (D 88) 2 N) (N : Int) (hp X D)
  | 0, i, hk => by rw [show i = N by omega]
  | k + 1, i, hk => by
    have ih := rg_M_mk_loop d hN a k (i + 1) (by omega)
    have x2 : rf_w ((i : Int) + 1) = ((i + 1 : Nat) : Int) := by
      rw [rg_w (by omega) (by omega)]
      omega
    have e : mn_v (D 88) 2 (i + 1) = (if sp_kind (D 88) (i : Int) = 2 ∨ ((2 : Int) = 1 ∧ sp_kind (D 88) (i : Int) = 4) ∨ ((2 : Int) = 2 ∧ sp_kind (D 88) (i : Int) = 5) then rf_w (mn_v (D 88) 2 i + 1) else rf_w (mn_v (D 88) 2 i + 0)) := rfl
    rw [← ih, rf_e_M_mark_80, if_pos (by omega)]
    try simp only [rg_hp1, rg_o_77, Int.reduceToNat, rg_kIs, rg_kLs, rg_kRs, rg_kVs, rg_nns, rg_bs, cond_true, cond_false]
    rw [rg_M_slack d (by omega) (by omega)]
    try simp only [Int.reduceToNat, rg_kIs, rg_kLs, rg_kRs, rg_kVs, rg_nns, rg_bs, cond_true, cond_false, x2]
    rw [e]
    by_cases c : 0 < sp_slack (D 88) (i : Int)
    · rw [if_pos c, if_pos (sl_pos.1 c)]
    · rw [if_neg c, if_neg (fun z => c (sl_pos.2 z))]
theorem rg_M_mk_end (d : Nat) {n : Nat} (hn : n < 6) {a : Int} (a1 : 1 ≤ a) (a5 : a ≤ 5) : rf_j_M_mark_80 (d + 2) 77 (n : Int) a (mn_v (D 88) 2 n) (n : Int) (hp X D) = some (some (.inl (mk_v (D 88) n a)), hp X D) := by
  have x3 : rf_w (3 * (n : Int)) = 3 * (n : Int) := rg_w (by omega) (by omega)
  have x9 : rf_w (9 + 3 * (n : Int)) = 9 + 3 * (n : Int) := rg_w (by omega) (by omega)
  have xa : rf_w (9 + 3 * (n : Int) + 1) = 9 + 3 * (n : Int) + 1 := rg_w (by omega) (by omega)
  have xb : rf_w (9 + 3 * (n : Int) + 2) = 9 + 3 * (n : Int) + 2 := rg_w (by omega) (by omega)
  have fin : ∀ v, (3 < a → v = mk_v (D 88) n a) → rf_j_M_mark_149 (d + 2) 77 (n : Int) a (mn_v (D 88) 2 n) v (hp X D) = some (some (.inl (mk_v (D 88) n a)), hp X D) := fun v hv => by
    rw [rf_e_M_mark_149]
    by_cases c1 : a = 1
    · rw [if_pos c1]
      try simp only [rg_gR_77_17, Int.reduceToNat, rg_kIs, rg_kLs, rg_kRs, rg_kVs, rg_nns, rg_bs, cond_true, cond_false, x3, x9, xa]
      rw [rg_aI_88 (by omega) (by omega)]
      try simp only [Int.reduceToNat, rg_kIs, rg_kLs, rg_kRs, rg_kVs, rg_nns, rg_bs, cond_true, cond_false]
      unfold mk_v
      rw [if_pos c1]
      try rfl
    · rw [if_neg c1]
      by_cases c2 : a = 2
      · rw [if_pos c2]
        unfold mk_v
        rw [if_neg c1, if_pos c2]
      · rw [if_neg c2]
        by_cases c3 : a = 3
        · rw [if_pos c3]
          try simp only [rg_hp1, rg_o_77, Int.reduceToNat, rg_kIs, rg_kLs, rg_kRs, rg_kVs, rg_nns, rg_bs, cond_true, cond_false]
          rw [rg_M_weighs d (by omega) (by omega)]
          try simp only [Int.reduceToNat, rg_kIs, rg_kLs, rg_kRs, rg_kVs, rg_nns, rg_bs, cond_true, cond_false]
          unfold mk_v
          rw [if_neg c1, if_neg c2, if_pos c3]
        · rw [if_neg c3, hv (by omega)]
  rw [rf_e_M_mark_80, if_neg (by omega)]
  by_cases c4 : a = 4
  · rw [if_pos c4]
    try simp only [rg_gR_77_17, Int.reduceToNat, rg_kIs, rg_kLs, rg_kRs, rg_kVs, rg_nns, rg_bs, cond_true, cond_false, x3, x9, xb]
    rw [rg_aI_88 (by omega) (by omega)]
    try simp only [rg_hp1, rg_o_77, Int.reduceToNat, rg_kIs, rg_kLs, rg_kRs, rg_kVs, rg_nns, rg_bs, cond_true, cond_false]
    rw [rg_M_holds d (by omega) (by omega)]
    try simp only [Int.reduceToNat, rg_kIs, rg_kLs, rg_kRs, rg_kVs, rg_nns, rg_bs, cond_true, cond_false]
    refine fin _ fun _ => ?_
    unfold mk_v
    rw [if_neg (by omega), if_neg (by omega), if_neg (by omega), if_pos c4]
    try rfl
  · rw [if_neg c4]
    try simp only [rg_gR_77_17, Int.reduceToNat, rg_kIs, rg_kLs, rg_kRs, rg_kVs, rg_nns, rg_bs, cond_true, cond_false]
    rw [rg_aI_88 (by decide) (by decide)]
    try simp only [Int.reduceToNat, rg_kIs, rg_kLs, rg_kRs, rg_kVs, rg_nns, rg_bs, cond_true, cond_false]
    refine fin _ fun _ => ?_
    unfold mk_v
    rw [if_neg (by omega), if_neg (by omega), if_neg (by omega), if_neg c4]
theorem rg_W_mk (hC : CR D 28 s W) (hd : sp_hd s) (hT : TR (D 43) s 0) (hb : s 31 = 0 ∨ s 31 = 1) (d : Nat) {n : Nat} (iW : (n : Int) < W) (n6 : (n : Int) < D 43 6) {a : Int} (a1 : 1 ≤ a) (a5 : a ≤ 5) (is : sp_kind s (n : Int) = a ∨ (a = 1 ∧ sp_kind s (n : Int) = 4) ∨ (a = 2 ∧ sp_kind s (n : Int) = 5)) : rf_call (d + 8) 73 [.inr (.inr (some 0)), .inl (n : Int), .inl a] (hp X D) = some (some (.inl (mk_v s n a)), hp X D) := by
  obtain ⟨-, b1, b2, b3⟩ := cr_at hC hd iW
  rw [rf_e_W_mark, if_neg (by omega)]
  try simp only [rg_gR_0_10, rg_T_gI rg_tr_43, Int.reduceToNat, rg_kIs, rg_kLs, rg_kRs, rg_kVs, rg_nns, rg_bs, cond_true, cond_false]
  rw [if_pos n6, if_pos (by omega), if_neg (by omega)]
  try simp only [rg_gR_0_9, rg_hp1, rg_con_28.1, Int.reduceToNat, rg_kIs, rg_kLs, rg_kRs, rg_kVs, rg_nns, rg_bs, cond_true, cond_false]
  rw [cr_is hC hd (d + 5) iW a, if_pos is]
  try simp only [Int.reduceToNat, rg_kIs, rg_kLs, rg_kRs, rg_kVs, rg_nns, rg_bs, cond_true, cond_false]
  rw [if_neg (by decide)]
  unfold mk_v
  by_cases c1 : a = 1
  · rw [if_pos c1, if_pos c1]
    try simp only [rg_gR_0_9, rg_gR_28_2, rg_hp1, rg_row_o rg_row_33, Int.reduceToNat, rg_kIs, rg_kLs, rg_kRs, rg_kVs, rg_nns, rg_bs, cond_true, cond_false]
    rw [cr_t hC hd (d + 6) iW]
    try simp only [Int.reduceToNat, rg_kIs, rg_kLs, rg_kRs, rg_kVs, rg_nns, rg_bs, cond_true, cond_false]
  · rw [if_neg c1, if_neg c1]
    by_cases c2 : a = 2
    · rw [if_pos (show a = 1 + 1 from c2), if_pos c2]
      try simp only [rg_gR_0_9, rg_hp1, rg_con_28.1, Int.reduceToNat, rg_kIs, rg_kLs, rg_kRs, rg_kVs, rg_nns, rg_bs, cond_true, cond_false]
      rw [rg_C_many hC hd (d + 4) 2 (N := n) (by omega)]
      try simp only [Int.reduceToNat, rg_kIs, rg_kLs, rg_kRs, rg_kVs, rg_nns, rg_bs, cond_true, cond_false]
    · rw [if_neg (show ¬ a = 1 + 1 from c2), if_neg c2]
      by_cases c3 : a = 3
      · rw [if_pos (show a = 1 + 1 + 1 from c3), if_pos c3]
        have k3 : sp_kind s (n : Int) = 3 := by omega
        have wb : 0 ≤ sp_weighs s (n : Int) ∧ sp_weighs s (n : Int) ≤ 10 := by
          have h1 := hd.2.1
          rw [sp_wt_eq (by omega) b2.1 b2.2 h1.1 h1.2, k3]
          unfold sp_wt
          rw [if_neg (show ¬ ((3 : Int) = 1 ∨ (3 : Int) = 4) by decide), if_pos (show (3 : Int) = 3 from rfl), if_neg (show ¬ ((3 : Int) = 5 ∧ s 31 = 1) from fun q => absurd q.1 (by decide))]
          by_cases y : sp_tons s (n : Int) < 2
          · rw [if_pos y]
            omega
          · rw [if_neg y]
            omega
        try simp only [rg_gR_0_9, rg_gR_0_10, rg_T_gI rg_tr_43, rg_hp1, rg_con_28.1, Int.reduceToNat, rg_kIs, rg_kLs, rg_kRs, rg_kVs, rg_nns, rg_bs, cond_true, cond_false]
        rw [hT.2.1.2.1, cr_w hC hd (d + 5) iW hb]
        try simp only [Int.reduceToNat, rg_kIs, rg_kLs, rg_kRs, rg_kVs, rg_nns, rg_bs, cond_true, cond_false]
        rw [rg_W_least (d + 6) wb.1 (by omega)]
        try simp only [Int.reduceToNat, rg_kIs, rg_kLs, rg_kRs, rg_kVs, rg_nns, rg_bs, cond_true, cond_false]
        unfold ls_v
        rw [if_neg (by omega)]
      · rw [if_neg (show ¬ a = 1 + 1 + 1 from c3), if_neg c3]
        by_cases c4 : a = 4
        · rw [if_pos (show a = 1 + 1 + 1 + 1 from c4), if_pos c4]
          try simp only [rg_gR_0_9, rg_gR_28_3, rg_hp1, rg_row_o rg_row_35, Int.reduceToNat, rg_kIs, rg_kLs, rg_kRs, rg_kVs, rg_nns, rg_bs, cond_true, cond_false]
          rw [cr_c hC hd (d + 6) iW]
          try simp only [rg_gR_0_9, rg_hp1, rg_con_28.1, Int.reduceToNat, rg_kIs, rg_kLs, rg_kRs, rg_kVs, rg_nns, rg_bs, cond_true, cond_false]
          rw [cr_h hC hd (d + 4) iW]
          try simp only [Int.reduceToNat, rg_kIs, rg_kLs, rg_kRs, rg_kVs, rg_nns, rg_bs, cond_true, cond_false]
        · rw [if_neg (show ¬ a = 1 + 1 + 1 + 1 from c4), if_neg c4]
          try simp only [rg_gR_0_10, rg_T_gI rg_tr_43, Int.reduceToNat, rg_kIs, rg_kLs, rg_kRs, rg_kVs, rg_nns, rg_bs, cond_true, cond_false]
          rw [hT.2.2.2.2.2]
theorem st_mark (hI : Inv D) (d : Nat) (i a : Int) : Ag X D (d + 8) 73 148 [.inl i, .inl a] := by
  unfold Ag
  have hw := hI.2.2.2.2.wag
  have h6 := hI.2.2.1.2.1
  by_cases hn : 0 ≤ i ∧ i < D 82 36 ∧ 1 ≤ a ∧ a ≤ 5
  · obtain ⟨n, rfl⟩ := Int.eq_ofNat_of_zero_le hn.1
    rcases hI.2.2.2.2 with ⟨h12, hN⟩ | ⟨h12, hY⟩
    · have := hN.1 36 (by decide)
      omega
    · obtain ⟨hd, hC, ha, hb, hT, ⟨m, h4, hDE, hL⟩, -⟩ := hY
      have st := hL.st hDE.1 ha hb hC.2.2.2.1
      by_cases is : sp_kind (D 82) (n : Int) = a ∨ (a = 1 ∧ sp_kind (D 82) (n : Int) = 4) ∨ (a = 2 ∧ sp_kind (D 82) (n : Int) = 5)
      · obtain ⟨u, hu⟩ : ∃ u, u = sp_first (D 88) (D 82) 37 := ⟨_, rfl⟩
        have E1 : E37 u (D 82) := by
          rw [hu]
          exact sp_first_E _ _
        refine ⟨mk_v (D 82) n a, D, rg_up D 88 u, rg_W_mk (X := X) hC hd hT st.1.2.2.2.2.1 d (by omega) (by omega) hn.2.2.1 hn.2.2.2 is, ?_, hI.s88 _⟩
        have l := rg_M_mk_loop (X := X) (D := rg_up D 88 u) (d + 5) (N := n) (by omega) a n 0 (by omega)
        rw [rg_M_mk_end (d + 5) (by omega) hn.2.2.1 hn.2.2.2, rg_up_s, E1.mk (by omega)] at l
        rw [show mn_v u 2 0 = 0 from rfl, show ((0 : Nat) : Int) = 0 from rfl] at l
        rw [rf_e_M_mark]
        try simp only [rg_hp1, rg_o_77, Int.reduceToNat, rg_kIs, rg_kLs, rg_kRs, rg_kVs, rg_nns, rg_bs, cond_true, cond_false]
        rw [rg_M_take, ← hu]
        try simp only [rg_gR_77_4, Int.reduceToNat, rg_kIs, rg_kLs, rg_kRs, rg_kVs, rg_nns, rg_bs, cond_true, cond_false]
        rw [rg_aI_82 (by decide) (by decide)]
        try simp only [Int.reduceToNat, rg_kIs, rg_kLs, rg_kRs, rg_kVs, rg_nns, rg_bs, cond_true, cond_false]
        rw [rg_up_n (show (82 : Nat) ≠ 88 by decide), rg_w (by omega) (by omega), rg_M_in]
        try simp only [Int.reduceToNat, rg_kIs, rg_kLs, rg_kRs, rg_kVs, rg_nns, rg_bs, cond_true, cond_false]
        rw [if_pos (show 0 ≤ (n : Int) ∧ (n : Int) ≤ D 82 36 - 1 by omega), if_neg (by decide), rg_M_in]
        try simp only [Int.reduceToNat, rg_kIs, rg_kLs, rg_kRs, rg_kVs, rg_nns, rg_bs, cond_true, cond_false]
        rw [if_pos (show 1 ≤ a ∧ a ≤ 5 from hn.2.2), if_neg (by decide)]
        try simp only [rg_hp1, rg_o_77, Int.reduceToNat, rg_kIs, rg_kLs, rg_kRs, rg_kVs, rg_nns, rg_bs, cond_true, cond_false]
        rw [rg_M_kind (d + 6) (by omega) (by omega)]
        try simp only [Int.reduceToNat, rg_kIs, rg_kLs, rg_kRs, rg_kVs, rg_nns, rg_bs, cond_true, cond_false]
        rw [rg_up_s, (E1.kind (by omega)).1]
        by_cases z : sp_kind (D 82) (n : Int) = a
        · rw [if_pos z]
          exact l
        · rcases is with c | c | c
          · exact absurd c z
          · rw [if_neg z, if_pos c.1, if_pos c.2]
            exact l
          · rw [if_neg z, if_neg (by omega), rf_e_M_mark_58, if_pos c.1, if_pos c.2]
            exact l
      · have i2 : ¬ sp_kind (D 82) (n : Int) = a := fun z => is (Or.inl z)
        have E1 := sp_first_E (D 88) (D 82)
        refine ⟨-3, wfd 3 D, mfd 3 (rg_up (wfd 3 D) 88 (sp_first (D 88) (D 82) 37)), ?_, ?_, ?_⟩
        · rw [rf_e_W_mark, if_neg (by omega)]
          try simp only [rg_gR_0_10, rg_T_gI rg_tr_43, Int.reduceToNat, rg_kIs, rg_kLs, rg_kRs, rg_kVs, rg_nns, rg_bs, cond_true, cond_false]
          rw [if_pos (by omega), if_pos (by omega), if_neg (by omega)]
          try simp only [rg_gR_0_9, rg_hp1, rg_con_28.1, Int.reduceToNat, rg_kIs, rg_kLs, rg_kRs, rg_kVs, rg_nns, rg_bs, cond_true, cond_false]
          rw [cr_is hC hd (d + 5) (n := n) (by omega) a, if_neg is]
          try simp only [Int.reduceToNat, rg_kIs, rg_kLs, rg_kRs, rg_kVs, rg_nns, rg_bs, cond_true, cond_false]
          rw [if_pos (by decide)]
          try simp only [rg_hp1, rg_o_0, Int.reduceToNat, rg_kIs, rg_kLs, rg_kRs, rg_kVs, rg_nns, rg_bs, cond_true, cond_false]
          rw [rg_W_found (d + 4) (by decide) (by decide) h6]
          try simp only [Int.reduceToNat, rg_kIs, rg_kLs, rg_kRs, rg_kVs, rg_nns, rg_bs, cond_true, cond_false]
        · rw [rf_e_M_mark]
          try simp only [rg_hp1, rg_o_77, Int.reduceToNat, rg_kIs, rg_kLs, rg_kRs, rg_kVs, rg_nns, rg_bs, cond_true, cond_false]
          rw [rg_M_take, show wfd 3 D 88 = D 88 from wfd_n (by decide) (by decide), show wfd 3 D 82 = D 82 from wfd_n (by decide) (by decide)]
          try simp only [rg_gR_77_4, Int.reduceToNat, rg_kIs, rg_kLs, rg_kRs, rg_kVs, rg_nns, rg_bs, cond_true, cond_false]
          rw [rg_aI_82 (by decide) (by decide)]
          try simp only [Int.reduceToNat, rg_kIs, rg_kLs, rg_kRs, rg_kVs, rg_nns, rg_bs, cond_true, cond_false]
          rw [rg_up_n (show (82 : Nat) ≠ 88 by decide), show wfd 3 D 82 = D 82 from wfd_n (by decide) (by decide), rg_w (by omega) (by omega), rg_M_in]
          try simp only [Int.reduceToNat, rg_kIs, rg_kLs, rg_kRs, rg_kVs, rg_nns, rg_bs, cond_true, cond_false]
          rw [if_pos (show 0 ≤ (n : Int) ∧ (n : Int) ≤ D 82 36 - 1 by omega), if_neg (by decide), rg_M_in]
          try simp only [Int.reduceToNat, rg_kIs, rg_kLs, rg_kRs, rg_kVs, rg_nns, rg_bs, cond_true, cond_false]
          rw [if_pos (show 1 ≤ a ∧ a ≤ 5 from hn.2.2), if_neg (by decide)]
          try simp only [rg_hp1, rg_o_77, Int.reduceToNat, rg_kIs, rg_kLs, rg_kRs, rg_kVs, rg_nns, rg_bs, cond_true, cond_false]
          rw [rg_M_kind (d + 6) (by omega) (by omega)]
          try simp only [Int.reduceToNat, rg_kIs, rg_kLs, rg_kRs, rg_kVs, rg_nns, rg_bs, cond_true, cond_false]
          rw [rg_up_s, (E1.kind (by omega)).1, if_neg i2]
          have R : rf_j_M_mark_58 (d + 7) 77 (n : Int) a (sp_kind (D 82) (n : Int)) (hp X (rg_up (wfd 3 D) 88 (sp_first (D 88) (D 82) 37))) = some (some (.inl (-3)), hp X (mfd 3 (rg_up (wfd 3 D) 88 (sp_first (D 88) (D 82) 37)))) := by
            rw [rf_e_M_mark_58]
            by_cases z2 : a = 2
            · rw [if_pos z2, if_neg (fun y => is (Or.inr (Or.inr ⟨z2, y⟩)))]
              try simp only [rg_hp1, rg_o_77, Int.reduceToNat, rg_kIs, rg_kLs, rg_kRs, rg_kVs, rg_nns, rg_bs, cond_true, cond_false]
              rw [rg_M_finds (d + 6) (by decide) (by decide)]
              try simp only [Int.reduceToNat, rg_kIs, rg_kLs, rg_kRs, rg_kVs, rg_nns, rg_bs, cond_true, cond_false]
            · rw [if_neg z2]
              try simp only [rg_hp1, rg_o_77, Int.reduceToNat, rg_kIs, rg_kLs, rg_kRs, rg_kVs, rg_nns, rg_bs, cond_true, cond_false]
              rw [rg_M_finds (d + 6) (by decide) (by decide)]
              try simp only [Int.reduceToNat, rg_kIs, rg_kLs, rg_kRs, rg_kVs, rg_nns, rg_bs, cond_true, cond_false]
          by_cases z1 : a = 1
          · rw [if_pos z1, if_neg (fun y => is (Or.inr (Or.inl ⟨z1, y⟩)))]
            exact R
          · rw [if_neg z1]
            exact R
        · rw [rg_mf88]
          exact (hI.fd (by decide) (by decide)).s88 _
  · refine ⟨-1, D, rg_up D 88 (sp_first (D 88) (D 82) 37), ?_, ?_, hI.s88 _⟩
    · rw [rf_e_W_mark]
      by_cases b : i < 0
      · rw [if_pos b]
      · rw [if_neg b]
        try simp only [rg_gR_0_10, rg_T_gI rg_tr_43, Int.reduceToNat, rg_kIs, rg_kLs, rg_kRs, rg_kVs, rg_nns, rg_bs, cond_true, cond_false]
        by_cases c : i < D 43 6
        · rw [if_pos c]
          by_cases e : 0 < a
          · rw [if_pos e, if_pos (by omega)]
          · rw [if_neg e]
        · rw [if_neg c]
    · rw [rf_e_M_mark]
      try simp only [rg_hp1, rg_o_77, Int.reduceToNat, rg_kIs, rg_kLs, rg_kRs, rg_kVs, rg_nns, rg_bs, cond_true, cond_false]
      rw [rg_M_take]
      try simp only [rg_gR_77_4, Int.reduceToNat, rg_kIs, rg_kLs, rg_kRs, rg_kVs, rg_nns, rg_bs, cond_true, cond_false]
      rw [rg_aI_82 (by decide) (by decide)]
      try simp only [Int.reduceToNat, rg_kIs, rg_kLs, rg_kRs, rg_kVs, rg_nns, rg_bs, cond_true, cond_false]
      rw [rg_up_n (show (82 : Nat) ≠ 88 by decide), rg_w (by omega) (by omega), rg_M_in]
      try simp only [Int.reduceToNat, rg_kIs, rg_kLs, rg_kRs, rg_kVs, rg_nns, rg_bs, cond_true, cond_false]
      by_cases e : 0 ≤ i ∧ i ≤ D 82 36 - 1
      · rw [if_pos e, if_neg (by decide), rg_M_in]
        try simp only [Int.reduceToNat, rg_kIs, rg_kLs, rg_kRs, rg_kVs, rg_nns, rg_bs, cond_true, cond_false]
        rw [if_neg (show ¬ (1 ≤ a ∧ a ≤ 5) by omega), if_pos (by decide)]
      · rw [if_neg e, if_pos (by decide)]
end RGS15
