/-! steam, would, worst -/
theorem sp_ld1 {s : Nat → Int} (h : sp_hd s) {n : Nat} (hn : n ≤ 6) : 0 ≤ sp_load s n ∧ sp_load s n ≤ 1000 := by
  have a := sp_ld h hn
  exact ⟨a.1, by omega⟩
/-- the worst so far: which, by how much -/
def ws_v (s : Nat → Int) : Nat → Int × Int
  | 0 => (-9, 0)
  | k + 1 => if ls_v (sp_load s (k + 1)) = -9 then ws_v s k else if (ws_v s k).1 = -9 ∨ (ws_v s k).2 < 2 * ls_v (sp_load s (k + 1)) - sp_load s (k + 1) - (sp_holds s (k : Int) - sp_slack s (k : Int)) then ((k : Int), 2 * ls_v (sp_load s (k + 1)) - sp_load s (k + 1) - (sp_holds s (k : Int) - sp_slack s (k : Int))) else ws_v s k
theorem ws_b {s : Nat → Int} (h : sp_hd s) : ∀ {k : Nat}, k ≤ 6 → ((ws_v s k).1 = -9 ∧ (ws_v s k).2 = 0) ∨ ((0 ≤ (ws_v s k).1 ∧ (ws_v s k).1 ≤ 6) ∧ (-9 ≤ (ws_v s k).2 ∧ (ws_v s k).2 ≤ 3))
  | 0, _ => Or.inl ⟨rfl, rfl⟩
  | k + 1, hk => by
    have ih := ws_b h (k := k) (by omega)
    have L := sp_ld1 h (n := k + 1) hk
    have B := ls_b L.1 L.2
    have G := sp_hb h (i := (k : Int)) (by omega) (by omega)
    have e : ws_v s (k + 1) = (if ls_v (sp_load s (k + 1)) = -9 then ws_v s k else if (ws_v s k).1 = -9 ∨ (ws_v s k).2 < 2 * ls_v (sp_load s (k + 1)) - sp_load s (k + 1) - (sp_holds s (k : Int) - sp_slack s (k : Int)) then ((k : Int), 2 * ls_v (sp_load s (k + 1)) - sp_load s (k + 1) - (sp_holds s (k : Int) - sp_slack s (k : Int))) else ws_v s k) := rfl
    rw [e]
    clear e
    by_cases a : ls_v (sp_load s (k + 1)) = -9
    · rw [if_pos a]
      exact ih
    · rw [if_neg a]
      by_cases b : (ws_v s k).1 = -9 ∨ (ws_v s k).2 < 2 * ls_v (sp_load s (k + 1)) - sp_load s (k + 1) - (sp_holds s (k : Int) - sp_slack s (k : Int))
      · rw [if_pos b]
        refine Or.inr ⟨?_, ?_⟩
        · show 0 ≤ (k : Int) ∧ (k : Int) ≤ 6
          omega
        · show -9 ≤ 2 * ls_v (sp_load s (k + 1)) - sp_load s (k + 1) - (sp_holds s (k : Int) - sp_slack s (k : Int)) ∧ 2 * ls_v (sp_load s (k + 1)) - sp_load s (k + 1) - (sp_holds s (k : Int) - sp_slack s (k : Int)) ≤ 3
          omega
      · rw [if_neg b]
        exact ih
def wm_v (s : Nat → Int) (k : Nat) : Int := if (ws_v s k).1 = -9 then 0 else (ws_v s k).2 + 100
section RGS16
variable {X : rf_X} {D : rf_D} {s : Nat → Int} {W : Int}
theorem rg_W_worst_7 (hC : CR D 28 s W) (hd : sp_hd s) (hT : TR (D 43) s 0) (hb : s 31 = 0 ∨ s 31 = 1) (d : Nat) {N : Nat} (hN : s 36 = (N : Int)) (hW : (N : Int) ≤ W) : ∀ (k i : Nat), i + k = N → rf_j_W_worst_7 (d + 3) 0 (ws_v s i).1 (ws_v s i).2 (i : Int) (hp X D) = rf_j_W_worst_7 (d + 3) 0 (ws_v s N).1 (ws_v s N).2 (N : Int) (hp X D)
  | 0, i, hk => by rw [show i = N by omega]
  | k + 1, i, hk => by
    have W6 := hC.2.2.2.1.2
    have ih := rg_W_worst_7 hC hd hT hb d hN hW k (i + 1) (by omega)
    have x2 : rf_w ((i : Int) + 1) = ((i + 1 : Nat) : Int) := by
      rw [rg_w (by omega) (by omega)]
      omega
    have L := sp_ld1 hd (n := i + 1) (by omega)
    have B := ls_b L.1 L.2
    have lo := rg_T_loadOf (X := X) (D := D) rg_tr_43 hC (d + 1) (n := ((i + 1 : Nat) : Int)) (by omega) (by omega) hT.2.1.2.1 hb
    rw [rg_tN] at lo
    have sn : ¬ ls_v (sp_load s (i + 1)) = -9 → rf_call (d + 3) 44 [.inr (.inr (some 43)), .inl (i : Int), .inl (ls_v (sp_load s (i + 1)))] (hp X D) = some (some (.inl (2 * ls_v (sp_load s (i + 1)) - sp_load s (i + 1) - (sp_holds s (i : Int) - sp_slack s (i : Int)))), hp X D) := fun z => by
      have r := rg_T_strainOf (X := X) (D := D) rg_tr_43 hC hd d (i := (i : Int)) (st := ls_v (sp_load s (i + 1))) (by omega) (by omega) hT.2.1.2.1 hb (by omega) (by omega)
      rw [show ((i : Int) + 1).toNat = i + 1 by omega] at r
      exact r
    have e : ws_v s (i + 1) = (if ls_v (sp_load s (i + 1)) = -9 then ws_v s i else if (ws_v s i).1 = -9 ∨ (ws_v s i).2 < 2 * ls_v (sp_load s (i + 1)) - sp_load s (i + 1) - (sp_holds s (i : Int) - sp_slack s (i : Int)) then ((i : Int), 2 * ls_v (sp_load s (i + 1)) - sp_load s (i + 1) - (sp_holds s (i : Int) - sp_slack s (i : Int))) else ws_v s i) := rfl
    rw [← ih, rf_e_W_worst_7]
    clear ih
    try simp only [rg_gR_0_10, rg_T_gI rg_tr_43, Int.reduceToNat, rg_kIs, rg_kLs, rg_kRs, rg_kVs, rg_nns, rg_bs, cond_true, cond_false]
    rw [hT.2.2.2.2.2, hN, if_pos (by omega)]
    try simp only [rg_gR_0_10, rg_hp1, rg_tr_43.1, Int.reduceToNat, rg_kIs, rg_kLs, rg_kRs, rg_kVs, rg_nns, rg_bs, cond_true, cond_false, x2]
    rw [lo]
    try simp only [Int.reduceToNat, rg_kIs, rg_kLs, rg_kRs, rg_kVs, rg_nns, rg_bs, cond_true, cond_false]
    rw [rg_W_least (d + 2) L.1 L.2]
    try simp only [Int.reduceToNat, rg_kIs, rg_kLs, rg_kRs, rg_kVs, rg_nns, rg_bs, cond_true, cond_false]
    rw [e]
    by_cases a : ls_v (sp_load s (i + 1)) = -9
    · rw [if_pos a, if_pos a]
    · rw [if_neg a, if_neg a]
      by_cases b : (ws_v s i).1 = -9
      · rw [if_pos b, if_pos (Or.inl b)]
        try simp only [rg_gR_0_10, rg_hp1, rg_tr_43.1, Int.reduceToNat, rg_kIs, rg_kLs, rg_kRs, rg_kVs, rg_nns, rg_bs, cond_true, cond_false]
        rw [sn a]
        try simp only [Int.reduceToNat, rg_kIs, rg_kLs, rg_kRs, rg_kVs, rg_nns, rg_bs, cond_true, cond_false]
      · rw [if_neg b]
        try simp only [rg_gR_0_10, rg_hp1, rg_tr_43.1, Int.reduceToNat, rg_kIs, rg_kLs, rg_kRs, rg_kVs, rg_nns, rg_bs, cond_true, cond_false]
        rw [sn a]
        try simp only [Int.reduceToNat, rg_kIs, rg_kLs, rg_kRs, rg_kVs, rg_nns, rg_bs, cond_true, cond_false]
        by_cases c : (ws_v s i).2 < 2 * ls_v (sp_load s (i + 1)) - sp_load s (i + 1) - (sp_holds s (i : Int) - sp_slack s (i : Int))
        · rw [if_pos c, if_pos (Or.inr c)]
          try simp only [rg_gR_0_10, rg_hp1, rg_tr_43.1, Int.reduceToNat, rg_kIs, rg_kLs, rg_kRs, rg_kVs, rg_nns, rg_bs, cond_true, cond_false]
          rw [sn a]
          try simp only [Int.reduceToNat, rg_kIs, rg_kLs, rg_kRs, rg_kVs, rg_nns, rg_bs, cond_true, cond_false]
        · rw [if_neg c, if_neg (fun z => z.elim b c)]
end RGS16
