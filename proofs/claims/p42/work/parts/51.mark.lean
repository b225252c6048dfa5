/-! mark, steam, would, worst -/
/-- how many of a kind are ahead -/
def mn_v (s : Nat → Int) (a : Int) : Nat → Int
  | 0 => 0
  | k + 1 => if sp_kind s (k : Int) = a ∨ (a = 1 ∧ sp_kind s (k : Int) = 4) ∨ (a = 2 ∧ sp_kind s (k : Int) = 5) then rf_w (mn_v s a k + 1) else rf_w (mn_v s a k + 0)
theorem E37.mn {u s : Nat → Int} (h : E37 u s) (a : Int) : ∀ {k : Nat}, k ≤ 6 → mn_v u a k = mn_v s a k
  | 0, _ => rfl
  | k + 1, hk => by
    show (if sp_kind u (k : Int) = a ∨ (a = 1 ∧ sp_kind u (k : Int) = 4) ∨ (a = 2 ∧ sp_kind u (k : Int) = 5) then rf_w (mn_v u a k + 1) else rf_w (mn_v u a k + 0)) = (if sp_kind s (k : Int) = a ∨ (a = 1 ∧ sp_kind s (k : Int) = 4) ∨ (a = 2 ∧ sp_kind s (k : Int) = 5) then rf_w (mn_v s a k + 1) else rf_w (mn_v s a k + 0))
    rw [(h.kind (i := (k : Int)) (by omega)).1, h.mn a (by omega)]
theorem sl_pos {s : Nat → Int} {i : Int} : 0 < sp_slack s i ↔ (sp_kind s i = 2 ∨ ((2 : Int) = 1 ∧ sp_kind s i = 4) ∨ ((2 : Int) = 2 ∧ sp_kind s i = 5)) := by
  unfold sp_slack
  by_cases a : sp_kind s i = 2
  · rw [if_pos a]
    exact ⟨fun _ => Or.inl a, fun _ => by decide⟩
  · rw [if_neg a]
    by_cases b : sp_kind s i = 5
    · rw [if_pos b]
      exact ⟨fun _ => Or.inr (Or.inr ⟨rfl, b⟩), fun _ => by decide⟩
    · rw [if_neg b]
      refine ⟨fun h => absurd h (by decide), fun h => ?_⟩
      rcases h with h | h | h
      · exact absurd h a
      · exact absurd h.1 (by decide)
      · exact absurd h.2 b
/-- the least steam that is enough -/
def ls_v (L : Int) : Int := if 18 < L then -9 else rf_w (Int.tdiv (rf_w (L + 1)) 2)
theorem ls_e {L : Int} (h0 : 0 ≤ L) (h : L ≤ 1000) : rf_w (Int.tdiv (rf_w (L + 1)) 2) = (L + 1) / 2 := by
  have e : Int.tdiv (L + 1) 2 = (L + 1) / 2 := Int.tdiv_eq_ediv_of_nonneg (by omega)
  rw [rg_w (z := L + 1) (by omega) (by omega), e, rg_w (by omega) (by omega)]
theorem ls_b {L : Int} (h0 : 0 ≤ L) (h : L ≤ 1000) : (18 < L ∧ ls_v L = -9) ∨ (L ≤ 18 ∧ L ≤ 2 * ls_v L ∧ 2 * ls_v L ≤ L + 1 ∧ 0 ≤ ls_v L ∧ ls_v L ≤ 9) := by
  unfold ls_v
  rw [ls_e h0 h]
  by_cases a : 18 < L
  · rw [if_pos a]
    exact Or.inl ⟨a, rfl⟩
  · rw [if_neg a]
    exact Or.inr (by omega)
theorem rg_W_least (d : Nat) {L : Int} (h0 : 0 ≤ L) (h1 : L ≤ 1000) (h : rf_H) : rf_call (d + 1) 74 [.inl L] h = some (some (.inl (ls_v L)), h) := by
  rw [rf_e_W_leastSteam]
  unfold ls_v
  rw [ls_e h0 h1]
  by_cases a : 18 < L
  · rw [if_pos a, if_pos (by omega)]
  · rw [if_neg a, if_neg (by omega)]
def mk_v (s : Nat → Int) (n : Nat) (a : Int) : Int := if a = 1 then sp_tons s (n : Int) else if a = 2 then mn_v s 2 n else if a = 3 then rf_w (Int.tdiv (rf_w (sp_weighs s (n : Int) + 1)) 2) else if a = 4 then rf_w (sp_coup s (n : Int) - sp_holds s (n : Int)) else rf_w (rf_w (s 36 - 1) - (n : Int))
theorem E37.mk {u s : Nat → Int} (h : E37 u s) {n : Nat} (hn : n ≤ 6) (a : Int) : mk_v u n a = mk_v s n a := by
  unfold mk_v
  rw [(h.kind (i := (n : Int)) (by omega)).2.1, (h.kind (i := (n : Int)) (by omega)).2.2, (h.wt (i := (n : Int)) (by omega)).1, (h.wt (i := (n : Int)) (by omega)).2.1, h.mn 2 hn, h 36 (by decide)]
theorem E37.gives {u s : Nat → Int} (h : E37 u s) (h0 : 0 ≤ s 33) (h6 : s 33 ≤ 6) (t r : Int) : (sp_gives u t r).1 = (sp_gives s t r).1 := by
  have e := pt_gives (w := u) h0 h6 (st := t) (r := r)
  rw [← pt_E h] at e
  rw [e]
section RGS15
variable {X : rf_X} {D : rf_D} {s : Nat → Int} {W : Int}
theorem rg_C_many_5 (hC : CR D 28 s W) (hd : sp_hd s) (d : Nat) (a : Int) {N : Nat} (hN : (N : Int) ≤ W) : ∀ (k i : Nat), i + k = N → rf_j_C_manyOf_5 (d + 2) 28 a (N : Int) (mn_v s a i) (i : Int) (hp X D) = some (some (.inl (mn_v s a N)), hp X D)
  | 0, i, hk => by
    rw [rf_e_C_manyOf_5, if_neg (by omega), show i = N by omega]
  | k + 1, i, hk => by
    have W6 := hC.2.2.2.1.2
    have w1 : D 31 1 = W := hC.2.2.1.1
    have ih := rg_C_many_5 hC hd d a hN k (i + 1) (by omega)
    have x2 : rf_w ((i : Int) + 1) = ((i + 1 : Nat) : Int) := by
      rw [rg_w (by omega) (by omega)]
      omega
    rw [rf_e_C_manyOf_5, if_pos (by omega)]
    try simp only [rg_gR_28_1, rg_row_gI rg_row_31, Int.reduceToNat, rg_kIs, rg_kLs, rg_kRs, rg_kVs, rg_nns, rg_bs, cond_true, cond_false]
    rw [w1, if_pos (by omega)]
    try simp only [rg_hp1, rg_con_28.1, Int.reduceToNat, rg_kIs, rg_kLs, rg_kRs, rg_kVs, rg_nns, rg_bs, cond_true, cond_false]
    rw [cr_is hC hd d (n := i) (by omega) a]
    try simp only [Int.reduceToNat, rg_kIs, rg_kLs, rg_kRs, rg_kVs, rg_nns, rg_bs, cond_true, cond_false, x2]
    have e : mn_v s a (i + 1) = (if sp_kind s (i : Int) = a ∨ (a = 1 ∧ sp_kind s (i : Int) = 4) ∨ (a = 2 ∧ sp_kind s (i : Int) = 5) then rf_w (mn_v s a i + 1) else rf_w (mn_v s a i + 0)) := rfl
    rw [e] at ih
    by_cases c : sp_kind s (i : Int) = a ∨ (a = 1 ∧ sp_kind s (i : Int) = 4) ∨ (a = 2 ∧ sp_kind s (i : Int) = 5)
    · rw [if_pos c] at ih ⊢
      rw [if_neg (by decide)]
      exact ih
    · rw [if_neg c] at ih ⊢
      rw [if_pos (by decide)]
      exact ih
theorem rg_C_many (hC : CR D 28 s W) (hd : sp_hd s) (d : Nat) (a : Int) {N : Nat} (hN : (N : Int) ≤ W) : rf_call (d + 3) 26 [.inr (.inr (some 28)), .inl a, .inl (N : Int)] (hp X D) = some (some (.inl (mn_v s a N)), hp X D) := by
  rw [rf_e_C_manyOf]
  exact rg_C_many_5 hC hd d a hN N 0 (by omega)
theorem rg_W_mk (hC : CR D 28 s W) (hd : sp_hd s) (hT : TR (D 43) s 0) (hb : s 31 = 0 ∨ s 31 = 1) (d : Nat) {n : Nat} (iW : (n : Int) < W) (n6 : (n : Int) < D 43 6) {a : Int} (a1 : 1 ≤ a) (a5 : a ≤ 5) (is : sp_kind s (n : Int) = a ∨ (a = 1 ∧ sp_kind s (n : Int) = 4) ∨ (a = 2 ∧ sp_kind s (n : Int) = 5)) : rf_call (d + 8) 73 [.inr (.inr (some 0)), .inl (n : Int), .inl a] (hp X D) = some (some (.inl (mk_v s n a)), hp X D) := by
  obtain ⟨-, b1, b2, b3⟩ := cr_at hC hd iW
  rw [rf_e_W_mark, if_neg (by omega)]
  try simp only [rg_gR_0_10, rg_T_gI rg_tr_43, Int.reduceToNat, rg_kIs, rg_kLs, rg_kRs, rg_kVs, rg_nns, rg_bs, cond_true, cond_false]
  rw [if_pos n6, if_pos (by omega), if_neg (by omega)]
  try simp only [rg_gR_0_9, rg_hp1, rg_con_28.1, Int.reduceToNat, rg_kIs, rg_kLs, rg_kRs, rg_kVs, rg_nns, rg_bs, cond_true, cond_false]
  rw [cr_is hC hd (d + 5) iW a, if_pos is]
  try simp only [Int.reduceToNat, rg_kIs, rg_kLs, rg_kRs, rg_kVs, rg_nns, rg_bs, cond_true, cond_false]
  rw [if_neg (by decide)]
  unfold mk_v
  by_cases c1 : a = 1
  · rw [if_pos c1, if_pos c1]
    try simp only [rg_gR_0_9, rg_gR_28_2, rg_hp1, rg_row_o rg_row_33, Int.reduceToNat, rg_kIs, rg_kLs, rg_kRs, rg_kVs, rg_nns, rg_bs, cond_true, cond_false]
    rw [cr_t hC hd (d + 6) iW]
    try simp only [Int.reduceToNat, rg_kIs, rg_kLs, rg_kRs, rg_kVs, rg_nns, rg_bs, cond_true, cond_false]
  · rw [if_neg c1, if_neg c1]
    by_cases c2 : a = 2
    · rw [if_pos (show a = 1 + 1 from c2), if_pos c2]
      try simp only [rg_gR_0_9, rg_hp1, rg_con_28.1, Int.reduceToNat, rg_kIs, rg_kLs, rg_kRs, rg_kVs, rg_nns, rg_bs, cond_true, cond_false]
      rw [rg_C_many hC hd (d + 4) 2 (N := n) (by omega)]
      try simp only [Int.reduceToNat, rg_kIs, rg_kLs, rg_kRs, rg_kVs, rg_nns, rg_bs, cond_true, cond_false]
    · rw [if_neg (show ¬ a = 1 + 1 from c2), if_neg c2]
      by_cases c3 : a = 3
      · rw [if_pos (show a = 1 + 1 + 1 from c3), if_pos c3]
        have k3 : sp_kind s (n : Int) = 3 := by omega
        have wb : 0 ≤ sp_weighs s (n : Int) ∧ sp_weighs s (n : Int) ≤ 10 := by
          have h1 := hd.2.1
          rw [sp_wt_eq (by omega) b2.1 b2.2 h1.1 h1.2, k3]
          unfold sp_wt
          rw [if_neg (show ¬ ((3 : Int) = 1 ∨ (3 : Int) = 4) by decide), if_pos (show (3 : Int) = 3 from rfl), if_neg (show ¬ ((3 : Int) = 5 ∧ s 31 = 1) from fun q => absurd q.1 (by decide))]
          by_cases y : sp_tons s (n : Int) < 2
          · rw [if_pos y]
            omega
          · rw [if_neg y]
            omega
        try simp only [rg_gR_0_9, rg_gR_0_10, rg_T_gI rg_tr_43, rg_hp1, rg_con_28.1, Int.reduceToNat, rg_kIs, rg_kLs, rg_kRs, rg_kVs, rg_nns, rg_bs, cond_true, cond_false]
        rw [hT.2.1.2.1, cr_w hC hd (d + 5) iW hb]
        try simp only [Int.reduceToNat, rg_kIs, rg_kLs, rg_kRs, rg_kVs, rg_nns, rg_bs, cond_true, cond_false]
        rw [rg_W_least (d + 6) wb.1 (by omega)]
        try simp only [Int.reduceToNat, rg_kIs, rg_kLs, rg_kRs, rg_kVs, rg_nns, rg_bs, cond_true, cond_false]
        unfold ls_v
        rw [if_neg (by omega)]
      · rw [if_neg (show ¬ a = 1 + 1 + 1 from c3), if_neg c3]
        by_cases c4 : a = 4
        · rw [if_pos (show a = 1 + 1 + 1 + 1 from c4), if_pos c4]
          try simp only [rg_gR_0_9, rg_gR_28_3, rg_hp1, rg_row_o rg_row_35, Int.reduceToNat, rg_kIs, rg_kLs, rg_kRs, rg_kVs, rg_nns, rg_bs, cond_true, cond_false]
          rw [cr_c hC hd (d + 6) iW]
          try simp only [rg_gR_0_9, rg_hp1, rg_con_28.1, Int.reduceToNat, rg_kIs, rg_kLs, rg_kRs, rg_kVs, rg_nns, rg_bs, cond_true, cond_false]
          rw [cr_h hC hd (d + 4) iW]
          try simp only [Int.reduceToNat, rg_kIs, rg_kLs, rg_kRs, rg_kVs, rg_nns, rg_bs, cond_true, cond_false]
        · rw [if_neg (show ¬ a = 1 + 1 + 1 + 1 from c4), if_neg c4]
          try simp only [rg_gR_0_10, rg_T_gI rg_tr_43, Int.reduceToNat, rg_kIs, rg_kLs, rg_kRs, rg_kVs, rg_nns, rg_bs, cond_true, cond_false]
          rw [hT.2.2.2.2.2]
end RGS15
