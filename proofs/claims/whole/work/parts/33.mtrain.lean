/-! The reference's train: steam given, a thing done, the log. -/
section RGMG
variable {X : rf_X} {D : rf_D}
theorem rg_M_g270 (d : Nat) {P T : Int} (h1 : 0 ≤ T) (h2 : T ≤ 6) : rf_j_M_gives_270 (d + 3) 77 P T (hp X D) = some (if P < sp_load (D 88) T.toNat ∧ D 88 31 = 0 then (some (.inl 5), hp X (rg_up D 88 (rg_ui (D 88) 33 0))) else (some (.inl 0), hp X D)) := by
  rw [rf_e_M_gives_270]
  simp (disch := omega) only [rg_hp1, rg_o_77, rg_gI_77, rg_pI_77, rg_gR_77_0, rg_gR_77_1, rg_gR_77_2, rg_gR_77_3, rg_gR_77_4, rg_gR_77_5, rg_gR_77_6, rg_gR_77_7, rg_gR_77_12, rg_gR_77_16, rg_gR_77_17, rg_gR_77_18, rg_gR_77_19, rg_aI_78, rg_aI_79, rg_aI_80, rg_aI_81, rg_aI_82, rg_aI_83, rg_aI_85, rg_aI_86, rg_aI_87, rg_aI_88, rg_aI_89, rg_aI_90, rg_sI_78, rg_sI_79, rg_sI_80, rg_sI_81, rg_sI_82, rg_sI_83, rg_sI_85, rg_sI_86, rg_sI_87, rg_sI_88, rg_sI_89, rg_sI_90, rg_aZ_84, rg_sZ_84, Int.reduceToNat, rg_kIs, rg_kLs, rg_kRs, rg_kVs, rg_nns, rg_bs, cond_true, cond_false, rg_M_loadOf]
  by_cases a1 : P < sp_load (D 88) T.toNat
  · rw [if_pos a1]
    by_cases a2 : D 88 31 = 0
    · rw [if_pos a2, if_pos (show P < sp_load (D 88) T.toNat ∧ D 88 31 = 0 from ⟨a1, a2⟩)]
    · rw [if_neg a2, if_neg (show ¬ (P < sp_load (D 88) T.toNat ∧ D 88 31 = 0) from fun q => a2 q.2)]
  · rw [if_neg a1, if_neg (show ¬ (P < sp_load (D 88) T.toNat ∧ D 88 31 = 0) from fun q => a1 q.1)]
theorem rg_M_g232 (d : Nat) {P T l : Int} (h1 : 0 ≤ T) (h2 : T ≤ 6) : rf_j_M_gives_232 (d + 3) 77 P T l (hp X D) = some (if l ≠ 0 ∧ sp_load (D 88) T.toNat ≤ P ∧ D 88 31 = 0 then (some (.inl 4), hp X (rg_up D 88 (rg_ui (D 88) 35 (rf_w (D 88 35 + 1))))) else if P < sp_load (D 88) T.toNat ∧ D 88 31 = 0 then (some (.inl 5), hp X (rg_up D 88 (rg_ui (D 88) 33 0))) else (some (.inl 0), hp X D)) := by
  rw [rf_e_M_gives_232]
  by_cases a0 : l = 0
  · rw [if_pos a0, rg_M_g270 d h1 h2, if_neg (show ¬ (l ≠ 0 ∧ sp_load (D 88) T.toNat ≤ P ∧ D 88 31 = 0) from fun q => q.1 a0)]
  · rw [if_neg a0]
    simp (disch := omega) only [rg_hp1, rg_o_77, rg_gI_77, rg_pI_77, rg_gR_77_0, rg_gR_77_1, rg_gR_77_2, rg_gR_77_3, rg_gR_77_4, rg_gR_77_5, rg_gR_77_6, rg_gR_77_7, rg_gR_77_12, rg_gR_77_16, rg_gR_77_17, rg_gR_77_18, rg_gR_77_19, rg_aI_78, rg_aI_79, rg_aI_80, rg_aI_81, rg_aI_82, rg_aI_83, rg_aI_85, rg_aI_86, rg_aI_87, rg_aI_88, rg_aI_89, rg_aI_90, rg_sI_78, rg_sI_79, rg_sI_80, rg_sI_81, rg_sI_82, rg_sI_83, rg_sI_85, rg_sI_86, rg_sI_87, rg_sI_88, rg_sI_89, rg_sI_90, rg_aZ_84, rg_sZ_84, Int.reduceToNat, rg_kIs, rg_kLs, rg_kRs, rg_kVs, rg_nns, rg_bs, cond_true, cond_false, rg_M_loadOf, rg_M_g270]
    by_cases a1 : P < sp_load (D 88) T.toNat
    · rw [if_pos a1, if_neg (show ¬ (l ≠ 0 ∧ sp_load (D 88) T.toNat ≤ P ∧ D 88 31 = 0) by omega)]
    · rw [if_neg a1]
      by_cases a2 : D 88 31 = 0
      · rw [if_pos (show l ≠ 0 ∧ sp_load (D 88) T.toNat ≤ P ∧ D 88 31 = 0 by omega)]
        exact if_pos a2
      · rw [if_neg (show ¬ (l ≠ 0 ∧ sp_load (D 88) T.toNat ≤ P ∧ D 88 31 = 0) by omega)]
        exact if_neg a2
theorem rg_M_g166 (d : Nat) {P T : Int} (h1 : 0 ≤ T) (h2 : T < 6) (hT : D 88 33 = T) : rf_j_M_gives_166 (d + 3) 77 P T (hp X D) = some (if sp_holds (D 88) T < rf_w (rf_w (P - sp_load (D 88) (T + 1).toNat) + sp_slack (D 88) T) then (some (.inl 3), hp X (rg_up D 88 (rg_ui (rg_ui (rg_ui (D 88) 36 T) 31 0) 32 0))) else (some (.inl 2), hp X (rg_up D 88 (rg_ui (D 88) 33 (T + 1))))) := by
  rw [rf_e_M_gives_166, rg_w (by omega) (by omega)]
  simp (disch := omega) only [rg_hp1, rg_o_77, rg_gI_77, rg_pI_77, rg_gR_77_0, rg_gR_77_1, rg_gR_77_2, rg_gR_77_3, rg_gR_77_4, rg_gR_77_5, rg_gR_77_6, rg_gR_77_7, rg_gR_77_12, rg_gR_77_16, rg_gR_77_17, rg_gR_77_18, rg_gR_77_19, rg_aI_78, rg_aI_79, rg_aI_80, rg_aI_81, rg_aI_82, rg_aI_83, rg_aI_85, rg_aI_86, rg_aI_87, rg_aI_88, rg_aI_89, rg_aI_90, rg_sI_78, rg_sI_79, rg_sI_80, rg_sI_81, rg_sI_82, rg_sI_83, rg_sI_85, rg_sI_86, rg_sI_87, rg_sI_88, rg_sI_89, rg_sI_90, rg_aZ_84, rg_sZ_84, Int.reduceToNat, rg_kIs, rg_kLs, rg_kRs, rg_kVs, rg_nns, rg_bs, cond_true, cond_false, rg_up_s, rg_up_n, rg_up_u, rg_ui_s, rg_ui_n, rg_ui_u, rg_M_loadOf, rg_M_slack, rg_M_holds]
  by_cases a1 : sp_holds (D 88) T < rf_w (rf_w (P - sp_load (D 88) (T + 1).toNat) + sp_slack (D 88) T)
  · rw [if_pos a1, if_pos a1]
    try rfl
  · rw [if_neg a1, if_neg a1, hT, rg_w (show -2147483648 ≤ T + 1 by omega) (by omega)]
theorem rg_M_g123 (d : Nat) {P T l : Int} (h1 : 0 ≤ T) (h2 : T ≤ D 88 36) (h3 : D 88 36 ≤ 6) (hT : D 88 33 = T) (hl : l = if T = D 88 36 then 1 else 0) : rf_j_M_gives_123 (d + 3) 77 P T l (hp X D) = some (if T ≠ D 88 36 ∧ sp_load (D 88) (T + 1).toNat ≤ P ∧ (T + 1 < D 88 36 ∨ D 88 31 = 0) then (if sp_holds (D 88) T < rf_w (rf_w (P - sp_load (D 88) (T + 1).toNat) + sp_slack (D 88) T) then (some (.inl 3), hp X (rg_up D 88 (rg_ui (rg_ui (rg_ui (D 88) 36 T) 31 0) 32 0))) else (some (.inl 2), hp X (rg_up D 88 (rg_ui (D 88) 33 (T + 1)))))
    else if T = D 88 36 ∧ sp_load (D 88) T.toNat ≤ P ∧ D 88 31 = 0 then (some (.inl 4), hp X (rg_up D 88 (rg_ui (D 88) 35 (rf_w (D 88 35 + 1))))) else if P < sp_load (D 88) T.toNat ∧ D 88 31 = 0 then (some (.inl 5), hp X (rg_up D 88 (rg_ui (D 88) 33 0))) else (some (.inl 0), hp X D)) := by
  rw [rf_e_M_gives_123]
  by_cases a0 : T = D 88 36
  · rw [if_pos a0] at hl
    subst hl
    rw [if_neg (by decide), rg_M_g232 d h1 (by omega), if_neg (show ¬ (T ≠ D 88 36 ∧ sp_load (D 88) (T + 1).toNat ≤ P ∧ (T + 1 < D 88 36 ∨ D 88 31 = 0)) by omega)]
    by_cases a1 : sp_load (D 88) T.toNat ≤ P ∧ D 88 31 = 0
    · rw [if_pos (show (1 : Int) ≠ 0 ∧ sp_load (D 88) T.toNat ≤ P ∧ D 88 31 = 0 from ⟨by decide, a1⟩), if_pos (show T = D 88 36 ∧ sp_load (D 88) T.toNat ≤ P ∧ D 88 31 = 0 from ⟨a0, a1⟩)]
    · rw [if_neg (show ¬ ((1 : Int) ≠ 0 ∧ sp_load (D 88) T.toNat ≤ P ∧ D 88 31 = 0) from fun q => a1 q.2), if_neg (show ¬ (T = D 88 36 ∧ sp_load (D 88) T.toNat ≤ P ∧ D 88 31 = 0) from fun q => a1 q.2)]
  · rw [if_neg a0] at hl
    subst hl
    rw [if_pos rfl, rg_w (by omega) (by omega)]
    simp (disch := omega) only [rg_hp1, rg_o_77, rg_gI_77, rg_pI_77, rg_gR_77_0, rg_gR_77_1, rg_gR_77_2, rg_gR_77_3, rg_gR_77_4, rg_gR_77_5, rg_gR_77_6, rg_gR_77_7, rg_gR_77_12, rg_gR_77_16, rg_gR_77_17, rg_gR_77_18, rg_gR_77_19, rg_aI_78, rg_aI_79, rg_aI_80, rg_aI_81, rg_aI_82, rg_aI_83, rg_aI_85, rg_aI_86, rg_aI_87, rg_aI_88, rg_aI_89, rg_aI_90, rg_sI_78, rg_sI_79, rg_sI_80, rg_sI_81, rg_sI_82, rg_sI_83, rg_sI_85, rg_sI_86, rg_sI_87, rg_sI_88, rg_sI_89, rg_sI_90, rg_aZ_84, rg_sZ_84, Int.reduceToNat, rg_kIs, rg_kLs, rg_kRs, rg_kVs, rg_nns, rg_bs, cond_true, cond_false, rg_M_loadOf]
    rw [rg_M_g232 d h1 (by omega), rg_M_g166 d h1 (by omega) hT, if_neg (show ¬ ((0 : Int) ≠ 0 ∧ sp_load (D 88) T.toNat ≤ P ∧ D 88 31 = 0) by omega), if_neg (show ¬ (T = D 88 36 ∧ sp_load (D 88) T.toNat ≤ P ∧ D 88 31 = 0) by omega)]
    by_cases a1 : P < sp_load (D 88) (T + 1).toNat
    · rw [if_pos a1, if_neg (show ¬ (T ≠ D 88 36 ∧ sp_load (D 88) (T + 1).toNat ≤ P ∧ (T + 1 < D 88 36 ∨ D 88 31 = 0)) by omega)]
    · rw [if_neg a1]
      by_cases a2 : T + 1 < D 88 36
      · rw [if_pos (show T ≠ D 88 36 ∧ sp_load (D 88) (T + 1).toNat ≤ P ∧ (T + 1 < D 88 36 ∨ D 88 31 = 0) by omega)]
        exact if_pos a2
      · by_cases a3 : D 88 31 = 0
        · rw [if_pos (show T ≠ D 88 36 ∧ sp_load (D 88) (T + 1).toNat ≤ P ∧ (T + 1 < D 88 36 ∨ D 88 31 = 0) by omega)]
          exact (if_neg a2).trans (if_pos a3)
        · rw [if_neg (show ¬ (T ≠ D 88 36 ∧ sp_load (D 88) (T + 1).toNat ≤ P ∧ (T + 1 < D 88 36 ∨ D 88 31 = 0)) by omega)]
          exact (if_neg a2).trans (if_neg a3)
theorem rg_M_g95 (d : Nat) {P a b : Int} (h1 : 0 ≤ D 88 33) (h2 : D 88 33 ≤ D 88 36) (h3 : D 88 36 ≤ 6) {s : Nat → Int} (hs : rg_ui (D 88) 27 (rf_w (a - b)) = s) : rf_j_M_gives_95 (d + 3) 77 P (some 88) 27 a b (hp X D) = some (if s 33 ≠ s 36 ∧ sp_load s (s 33 + 1).toNat ≤ P ∧ (s 33 + 1 < s 36 ∨ s 31 = 0) then (if sp_holds s (s 33) < rf_w (rf_w (P - sp_load s (s 33 + 1).toNat) + sp_slack s (s 33)) then (some (.inl 3), hp X (rg_up D 88 (rg_ui (rg_ui (rg_ui s 36 (s 33)) 31 0) 32 0))) else (some (.inl 2), hp X (rg_up D 88 (rg_ui s 33 (s 33 + 1)))))
    else if s 33 = s 36 ∧ sp_load s (s 33).toNat ≤ P ∧ s 31 = 0 then (some (.inl 4), hp X (rg_up D 88 (rg_ui s 35 (rf_w (s 35 + 1))))) else if P < sp_load s (s 33).toNat ∧ s 31 = 0 then (some (.inl 5), hp X (rg_up D 88 (rg_ui s 33 0))) else (some (.inl 0), hp X (rg_up D 88 s))) := by
  rw [rf_e_M_gives_95]
  simp (disch := omega) only [Int.reduceToNat, rg_kIs, rg_kLs, rg_kRs, rg_kVs, rg_nns, rg_bs, cond_true, cond_false, rg_sI_88]
  rw [hs]
  have e1 : s 33 = D 88 33 := by rw [← hs]; rfl
  have e2 : s 36 = D 88 36 := by rw [← hs]; rfl
  have k := rg_M_g123 (X := X) (D := rg_up D 88 s) d (P := P) (T := s 33) (l := if s 33 = s 36 then 1 else 0) (by omega) (by rw [rg_up_s]; omega) (by rw [rg_up_s]; omega) (by rw [rg_up_s]) (by rw [rg_up_s])
  simp only [rg_up_s, rg_up_u] at k
  rw [← k]
  simp (disch := omega) only [rg_hp1, rg_o_77, rg_gI_77, rg_pI_77, rg_gR_77_0, rg_gR_77_1, rg_gR_77_2, rg_gR_77_3, rg_gR_77_4, rg_gR_77_5, rg_gR_77_6, rg_gR_77_7, rg_gR_77_12, rg_gR_77_16, rg_gR_77_17, rg_gR_77_18, rg_gR_77_19, rg_aI_78, rg_aI_79, rg_aI_80, rg_aI_81, rg_aI_82, rg_aI_83, rg_aI_85, rg_aI_86, rg_aI_87, rg_aI_88, rg_aI_89, rg_aI_90, rg_sI_78, rg_sI_79, rg_sI_80, rg_sI_81, rg_sI_82, rg_sI_83, rg_sI_85, rg_sI_86, rg_sI_87, rg_sI_88, rg_sI_89, rg_sI_90, rg_aZ_84, rg_sZ_84, Int.reduceToNat, rg_kIs, rg_kLs, rg_kRs, rg_kVs, rg_nns, rg_bs, cond_true, cond_false, rg_up_s]
  by_cases a0 : s 33 = s 36
  · rw [if_pos a0, if_pos a0]
  · rw [if_neg a0, if_neg a0]
theorem rg_M_gives (d : Nat) (st rail : Int) (h1 : 0 ≤ D 88 33) (h2 : D 88 33 ≤ D 88 36) (h3 : D 88 36 ≤ 6) : rf_call (d + 4) 156 [.inr (.inr (some 77)), .inl st, .inl rail] (hp X D) = some (some (.inl (sp_gives (D 88) st rail).1), hp X (rg_up D 88 (sp_gives (D 88) st rail).2)) := by
  rw [rf_e_M_gives]
  simp (disch := omega) only [rg_hp1, rg_o_77, rg_gI_77, rg_pI_77, rg_gR_77_0, rg_gR_77_1, rg_gR_77_2, rg_gR_77_3, rg_gR_77_4, rg_gR_77_5, rg_gR_77_6, rg_gR_77_7, rg_gR_77_12, rg_gR_77_16, rg_gR_77_17, rg_gR_77_18, rg_gR_77_19, rg_aI_78, rg_aI_79, rg_aI_80, rg_aI_81, rg_aI_82, rg_aI_83, rg_aI_85, rg_aI_86, rg_aI_87, rg_aI_88, rg_aI_89, rg_aI_90, rg_sI_78, rg_sI_79, rg_sI_80, rg_sI_81, rg_sI_82, rg_sI_83, rg_sI_85, rg_sI_86, rg_sI_87, rg_sI_88, rg_sI_89, rg_sI_90, rg_aZ_84, rg_sZ_84, Int.reduceToNat, rg_kIs, rg_kLs, rg_kRs, rg_kVs, rg_nns, rg_bs, cond_true, cond_false, rg_M_gripOn]
  by_cases a0 : sp_grip (D 88) rail < rf_w (2 * st)
  · rw [if_pos a0]
    simp (disch := omega) only [rg_hp1, rg_o_77, rg_gI_77, rg_pI_77, rg_gR_77_0, rg_gR_77_1, rg_gR_77_2, rg_gR_77_3, rg_gR_77_4, rg_gR_77_5, rg_gR_77_6, rg_gR_77_7, rg_gR_77_12, rg_gR_77_16, rg_gR_77_17, rg_gR_77_18, rg_gR_77_19, rg_aI_78, rg_aI_79, rg_aI_80, rg_aI_81, rg_aI_82, rg_aI_83, rg_aI_85, rg_aI_86, rg_aI_87, rg_aI_88, rg_aI_89, rg_aI_90, rg_sI_78, rg_sI_79, rg_sI_80, rg_sI_81, rg_sI_82, rg_sI_83, rg_sI_85, rg_sI_86, rg_sI_87, rg_sI_88, rg_sI_89, rg_sI_90, rg_aZ_84, rg_sZ_84, Int.reduceToNat, rg_kIs, rg_kLs, rg_kRs, rg_kVs, rg_nns, rg_bs, cond_true, cond_false, rg_up_s, rg_up_n, rg_up_u, rg_ui_s, rg_ui_n, rg_ui_u, rg_M_lesser, rg_M_greater]
    unfold sp_gives
    rw [if_pos a0]
    try rfl
  · rw [if_neg a0]
    try simp (disch := omega) only [rg_hp1, rg_o_77, rg_gI_77, rg_pI_77, rg_gR_77_0, rg_gR_77_1, rg_gR_77_2, rg_gR_77_3, rg_gR_77_4, rg_gR_77_5, rg_gR_77_6, rg_gR_77_7, rg_gR_77_12, rg_gR_77_16, rg_gR_77_17, rg_gR_77_18, rg_gR_77_19, rg_aI_78, rg_aI_79, rg_aI_80, rg_aI_81, rg_aI_82, rg_aI_83, rg_aI_85, rg_aI_86, rg_aI_87, rg_aI_88, rg_aI_89, rg_aI_90, rg_sI_78, rg_sI_79, rg_sI_80, rg_sI_81, rg_sI_82, rg_sI_83, rg_sI_85, rg_sI_86, rg_sI_87, rg_sI_88, rg_sI_89, rg_sI_90, rg_aZ_84, rg_sZ_84, Int.reduceToNat, rg_kIs, rg_kLs, rg_kRs, rg_kVs, rg_nns, rg_bs, cond_true, cond_false]
    have k : ∀ b : Int, b = (if 0 < st then (if 0 < D 88 27 then 1 else 0) else 0) → rf_j_M_gives_95 (d + 3) 77 (rf_w (2 * st)) (some 88) 27 (D 88 27) b (hp X (rg_up D 88 (rg_ui (D 88) 30 0))) = some (some (.inl (sp_gives (D 88) st rail).1), hp X (rg_up D 88 (sp_gives (D 88) st rail).2)) := by
      intro b hb
      rw [rg_M_g95 (X := X) (D := rg_up D 88 (rg_ui (D 88) 30 0)) d (P := rf_w (2 * st)) (a := D 88 27) (b := b) (by rw [rg_up_s]; exact h1) (by rw [rg_up_s]; exact h2) (by rw [rg_up_s]; exact h3) (s := sp_less (D 88) st) (by rw [rg_up_s, hb]; rfl)]
      simp only [rg_up_u]
      unfold sp_gives
      rw [if_neg a0]
      rw [sp_less_33, sp_less_36, sp_less_31, sp_less_35]
      by_cases e0 : D 88 33 = D 88 36
      · rw [if_neg (show ¬ sp_takes (D 88) st = true from fun q => (of_decide_eq_true q).1 e0), if_neg (show ¬ (D 88 33 ≠ D 88 36 ∧ sp_load (sp_less (D 88) st) (D 88 33 + 1).toNat ≤ rf_w (2 * st) ∧ (D 88 33 + 1 < D 88 36 ∨ D 88 31 = 0)) from fun q => q.1 e0), sp_less_load _ _ (n := (D 88 33).toNat) (by omega)]
        by_cases b1 : sp_goes (D 88) st = true
        · rw [if_pos b1, if_pos (of_decide_eq_true b1)]
        · rw [if_neg b1, if_neg (fun q => b1 (decide_eq_true q))]
          by_cases b2 : sp_rolls (D 88) st = true
          · rw [if_pos b2, if_pos (of_decide_eq_true b2)]
          · rw [if_neg b2, if_neg (fun q => b2 (decide_eq_true q))]
      · rw [sp_less_load _ _ (n := (D 88 33 + 1).toNat) (by omega), sp_less_load _ _ (n := (D 88 33).toNat) (by omega), sp_less_holds _ _ h1 (by omega), sp_less_slack _ _ h1 (by omega)]
        by_cases b0 : sp_takes (D 88) st = true
        · rw [if_pos b0, if_pos (of_decide_eq_true b0)]
          by_cases b1 : sp_tears (D 88) st = true
          · rw [if_pos b1, if_pos (of_decide_eq_true b1)]
          · rw [if_neg b1, if_neg (fun q => b1 (decide_eq_true q)), rg_w (z := D 88 33 + 1) (by omega) (by omega)]
        · rw [if_neg b0, if_neg (fun q => b0 (decide_eq_true q))]
          by_cases b1 : sp_goes (D 88) st = true
          · rw [if_pos b1, if_pos (of_decide_eq_true b1)]
          · rw [if_neg b1, if_neg (fun q => b1 (decide_eq_true q))]
            by_cases b2 : sp_rolls (D 88) st = true
            · rw [if_pos b2, if_pos (of_decide_eq_true b2)]
            · rw [if_neg b2, if_neg (fun q => b2 (decide_eq_true q))]
    try simp (disch := omega) only [rg_up_s, rg_up_n, rg_up_u, rg_ui_s, rg_ui_n, rg_ui_u]
    by_cases a1 : 0 < st
    · rw [if_pos a1]
      by_cases a2 : 0 < D 88 27
      · rw [if_pos a2]
        exact k 1 (by rw [if_pos a1, if_pos a2])
      · rw [if_neg a2]
        exact k 0 (by rw [if_pos a1, if_neg a2])
    · rw [if_neg a1]
      exact k 0 (by rw [if_neg a1])
theorem rg_M_d112 (d : Nat) (r : Int) : rf_j_M_does_112 d 77 r (hp X D) = some (some (.inl r), hp X (rg_up D 88 (sp_tick (D 88)))) := by
  rw [rf_e_M_does_112]
  simp (disch := omega) only [rg_hp1, rg_o_77, rg_gI_77, rg_pI_77, rg_gR_77_0, rg_gR_77_1, rg_gR_77_2, rg_gR_77_3, rg_gR_77_4, rg_gR_77_5, rg_gR_77_6, rg_gR_77_7, rg_gR_77_12, rg_gR_77_16, rg_gR_77_17, rg_gR_77_18, rg_gR_77_19, rg_aI_78, rg_aI_79, rg_aI_80, rg_aI_81, rg_aI_82, rg_aI_83, rg_aI_85, rg_aI_86, rg_aI_87, rg_aI_88, rg_aI_89, rg_aI_90, rg_sI_78, rg_sI_79, rg_sI_80, rg_sI_81, rg_sI_82, rg_sI_83, rg_sI_85, rg_sI_86, rg_sI_87, rg_sI_88, rg_sI_89, rg_sI_90, rg_aZ_84, rg_sZ_84, Int.reduceToNat, rg_kIs, rg_kLs, rg_kRs, rg_kVs, rg_nns, rg_bs, cond_true, cond_false]
  try rfl
theorem rg_M_does (d : Nat) (t rail : Int) (h1 : 0 ≤ D 88 33) (h2 : D 88 33 ≤ D 88 36) (h3 : D 88 36 ≤ 6) : rf_call (d + 5) 155 [.inr (.inr (some 77)), .inl t, .inl rail] (hp X D) = some (some (.inl (sp_does (D 88) t rail).1), hp X (rg_up D 88 (sp_does (D 88) t rail).2)) := by
  rw [rf_e_M_does]
  unfold sp_does
  by_cases a0 : t < 10
  · rw [if_pos a0, if_pos a0]
    simp only [rg_hp1, rg_o_77, Int.reduceToNat, rg_kIs, rg_kLs, rg_kRs, rg_kVs, rg_nns, rg_bs, cond_true, cond_false]
    rw [rg_M_gives d t rail h1 h2 h3]
    simp only [Int.reduceToNat, rg_kIs, rg_kLs, rg_kRs, rg_kVs, rg_nns, rg_bs, cond_true, cond_false, rg_M_d112, rg_up_s, rg_up_u]
  · rw [if_neg a0, if_neg a0]
    unfold sp_other
    by_cases a1 : t = 10
    · rw [if_pos a1, if_pos a1]
      simp (disch := omega) only [rg_hp1, rg_o_77, rg_gI_77, rg_pI_77, rg_gR_77_0, rg_gR_77_1, rg_gR_77_2, rg_gR_77_3, rg_gR_77_4, rg_gR_77_5, rg_gR_77_6, rg_gR_77_7, rg_gR_77_12, rg_gR_77_16, rg_gR_77_17, rg_gR_77_18, rg_gR_77_19, rg_aI_78, rg_aI_79, rg_aI_80, rg_aI_81, rg_aI_82, rg_aI_83, rg_aI_85, rg_aI_86, rg_aI_87, rg_aI_88, rg_aI_89, rg_aI_90, rg_sI_78, rg_sI_79, rg_sI_80, rg_sI_81, rg_sI_82, rg_sI_83, rg_sI_85, rg_sI_86, rg_sI_87, rg_sI_88, rg_sI_89, rg_sI_90, rg_aZ_84, rg_sZ_84, Int.reduceToNat, rg_kIs, rg_kLs, rg_kRs, rg_kVs, rg_nns, rg_bs, cond_true, cond_false, rg_up_s, rg_up_n, rg_up_u, rg_ui_s, rg_ui_n, rg_ui_u, rg_M_d112]
      try rfl
    · rw [if_neg a1, if_neg a1]
      by_cases a2 : t = 11
      · rw [if_pos a2, if_pos a2]
        simp (disch := omega) only [rg_hp1, rg_o_77, rg_gI_77, rg_pI_77, rg_gR_77_0, rg_gR_77_1, rg_gR_77_2, rg_gR_77_3, rg_gR_77_4, rg_gR_77_5, rg_gR_77_6, rg_gR_77_7, rg_gR_77_12, rg_gR_77_16, rg_gR_77_17, rg_gR_77_18, rg_gR_77_19, rg_aI_78, rg_aI_79, rg_aI_80, rg_aI_81, rg_aI_82, rg_aI_83, rg_aI_85, rg_aI_86, rg_aI_87, rg_aI_88, rg_aI_89, rg_aI_90, rg_sI_78, rg_sI_79, rg_sI_80, rg_sI_81, rg_sI_82, rg_sI_83, rg_sI_85, rg_sI_86, rg_sI_87, rg_sI_88, rg_sI_89, rg_sI_90, rg_aZ_84, rg_sZ_84, Int.reduceToNat, rg_kIs, rg_kLs, rg_kRs, rg_kVs, rg_nns, rg_bs, cond_true, cond_false, rg_up_s, rg_up_n, rg_up_u, rg_ui_s, rg_ui_n, rg_ui_u, rg_M_lesser, rg_M_d112]
        try rfl
      · rw [if_neg a2, if_neg a2]
        by_cases a3 : t = 12
        · rw [if_pos a3, if_pos a3]
          simp (disch := omega) only [rg_hp1, rg_o_77, rg_gI_77, rg_pI_77, rg_gR_77_0, rg_gR_77_1, rg_gR_77_2, rg_gR_77_3, rg_gR_77_4, rg_gR_77_5, rg_gR_77_6, rg_gR_77_7, rg_gR_77_12, rg_gR_77_16, rg_gR_77_17, rg_gR_77_18, rg_gR_77_19, rg_aI_78, rg_aI_79, rg_aI_80, rg_aI_81, rg_aI_82, rg_aI_83, rg_aI_85, rg_aI_86, rg_aI_87, rg_aI_88, rg_aI_89, rg_aI_90, rg_sI_78, rg_sI_79, rg_sI_80, rg_sI_81, rg_sI_82, rg_sI_83, rg_sI_85, rg_sI_86, rg_sI_87, rg_sI_88, rg_sI_89, rg_sI_90, rg_aZ_84, rg_sZ_84, Int.reduceToNat, rg_kIs, rg_kLs, rg_kRs, rg_kVs, rg_nns, rg_bs, cond_true, cond_false, rg_up_s, rg_up_n, rg_up_u, rg_ui_s, rg_ui_n, rg_ui_u, rg_M_d112]
          try rfl
        · rw [if_neg a3, if_neg a3]
          by_cases a4 : t = 14
          · simp (disch := omega) only [if_pos a4, rg_hp1, rg_o_77, rg_gI_77, rg_pI_77, rg_gR_77_0, rg_gR_77_1, rg_gR_77_2, rg_gR_77_3, rg_gR_77_4, rg_gR_77_5, rg_gR_77_6, rg_gR_77_7, rg_gR_77_12, rg_gR_77_16, rg_gR_77_17, rg_gR_77_18, rg_gR_77_19, rg_aI_78, rg_aI_79, rg_aI_80, rg_aI_81, rg_aI_82, rg_aI_83, rg_aI_85, rg_aI_86, rg_aI_87, rg_aI_88, rg_aI_89, rg_aI_90, rg_sI_78, rg_sI_79, rg_sI_80, rg_sI_81, rg_sI_82, rg_sI_83, rg_sI_85, rg_sI_86, rg_sI_87, rg_sI_88, rg_sI_89, rg_sI_90, rg_aZ_84, rg_sZ_84, Int.reduceToNat, rg_kIs, rg_kLs, rg_kRs, rg_kVs, rg_nns, rg_bs, cond_true, cond_false, rg_up_s, rg_up_n, rg_up_u, rg_ui_s, rg_ui_n, rg_ui_u, rg_M_d112]
            try rfl
          · simp (disch := omega) only [if_neg a4, rg_hp1, rg_o_77, rg_gI_77, rg_pI_77, rg_gR_77_0, rg_gR_77_1, rg_gR_77_2, rg_gR_77_3, rg_gR_77_4, rg_gR_77_5, rg_gR_77_6, rg_gR_77_7, rg_gR_77_12, rg_gR_77_16, rg_gR_77_17, rg_gR_77_18, rg_gR_77_19, rg_aI_78, rg_aI_79, rg_aI_80, rg_aI_81, rg_aI_82, rg_aI_83, rg_aI_85, rg_aI_86, rg_aI_87, rg_aI_88, rg_aI_89, rg_aI_90, rg_sI_78, rg_sI_79, rg_sI_80, rg_sI_81, rg_sI_82, rg_sI_83, rg_sI_85, rg_sI_86, rg_sI_87, rg_sI_88, rg_sI_89, rg_sI_90, rg_aZ_84, rg_sZ_84, Int.reduceToNat, rg_kIs, rg_kLs, rg_kRs, rg_kVs, rg_nns, rg_bs, cond_true, cond_false, rg_up_s, rg_up_n, rg_up_u, rg_ui_s, rg_ui_n, rg_ui_u, rg_M_d112]
            try rfl
/-- the row so is the first 37 of the row now -/
def sp_first (f g : Nat → Int) (n : Nat) : Nat → Int := fun j => if j < n then g j else f j
theorem rg_M_take_loop (d : Nat) : ∀ (k i : Nat) (D : rf_D), i + k = 37 → rf_j_M_take_2 d 77 (i : Int) (hp X D) = some (none, hp X (rg_up D 88 (fun j => if i ≤ j ∧ j < 37 then D 82 j else D 88 j)))
  | 0, i, D, hk => by
    rw [rf_e_M_take_2, if_neg (by omega)]
    have e : (fun j => if i ≤ j ∧ j < 37 then D 82 j else D 88 j) = D 88 := by
      funext j
      rw [if_neg (by omega)]
    rw [e, rg_up_i]
  | k + 1, i, D, hk => by
    rw [rf_e_M_take_2, if_pos (by omega)]
    simp (disch := omega) only [rg_hp1, rg_o_77, rg_gI_77, rg_pI_77, rg_gR_77_0, rg_gR_77_1, rg_gR_77_2, rg_gR_77_3, rg_gR_77_4, rg_gR_77_5, rg_gR_77_6, rg_gR_77_7, rg_gR_77_12, rg_gR_77_16, rg_gR_77_17, rg_gR_77_18, rg_gR_77_19, rg_aI_78, rg_aI_79, rg_aI_80, rg_aI_81, rg_aI_82, rg_aI_83, rg_aI_85, rg_aI_86, rg_aI_87, rg_aI_88, rg_aI_89, rg_aI_90, rg_sI_78, rg_sI_79, rg_sI_80, rg_sI_81, rg_sI_82, rg_sI_83, rg_sI_85, rg_sI_86, rg_sI_87, rg_sI_88, rg_sI_89, rg_sI_90, rg_aZ_84, rg_sZ_84, Int.reduceToNat, rg_kIs, rg_kLs, rg_kRs, rg_kVs, rg_nns, rg_bs, cond_true, cond_false]
    rw [rg_w (by omega) (by omega), show ((i : Int) + 1) = ((i + 1 : Nat) : Int) by omega, rg_M_take_loop d k (i + 1) _ (by omega)]
    rw [rg_up_u, rg_up_s, rg_up_n (by decide)]
    congr 4
    funext j
    unfold rg_ui
    rw [show ((i : Int)).toNat = i by omega]
    by_cases h1 : i + 1 ≤ j ∧ j < 37
    · rw [if_pos h1, if_pos (by omega)]
    · rw [if_neg h1]
      by_cases h2 : j = i
      · rw [if_pos h2, if_pos (by omega), h2]
      · rw [if_neg h2, if_neg (by omega)]
theorem rg_M_take (d : Nat) : rf_call (d + 1) 142 [.inr (.inr (some 77))] (hp X D) = some (none, hp X (rg_up D 88 (sp_first (D 88) (D 82) 37))) := by
  rw [rf_e_M_take]
  have h := rg_M_take_loop (X := X) d 37 0 D (by omega)
  rw [show ((0 : Nat) : Int) = 0 from rfl] at h
  rw [h]
  congr 4
  funext j
  unfold sp_first
  by_cases h : j < 37
  · rw [if_pos (by omega), if_pos h]
  · rw [if_neg (by omega), if_neg h]
theorem rg_M_acts_16 (d : Nat) (t : Int) (n : Nat) (hn : n ≤ 59) : ∀ (k i : Nat) (D : rf_D), i + k = 10 → rf_j_M_acts_16 d 77 t (38 + 10 * (n : Int)) (i : Int) (hp X D) = rf_j_M_acts_16 d 77 t (38 + 10 * (n : Int)) 10 (hp X (rg_up D 82 (fun j => if 38 + 10 * n + i ≤ j ∧ j < 38 + 10 * n + 10 then D 82 (27 + (j - (38 + 10 * n))) else D 82 j)))
  | 0, i, D, hk => by
    have e : (fun j => if 38 + 10 * n + i ≤ j ∧ j < 38 + 10 * n + 10 then D 82 (27 + (j - (38 + 10 * n))) else D 82 j) = D 82 := by
      funext j
      rw [if_neg (by omega)]
    rw [e, rg_up_i, show i = 10 by omega]
    try rfl
  | k + 1, i, D, hk => by
    rw [rf_e_M_acts_16, if_pos (by omega), rg_w (show -2147483648 ≤ 27 + (i : Int) by omega) (by omega), rg_w (show -2147483648 ≤ 38 + 10 * (n : Int) + (i : Int) by omega) (by omega), rg_w (show -2147483648 ≤ (i : Int) + 1 by omega) (by omega)]
    simp (disch := omega) only [rg_hp1, rg_o_77, rg_gI_77, rg_pI_77, rg_gR_77_0, rg_gR_77_1, rg_gR_77_2, rg_gR_77_3, rg_gR_77_4, rg_gR_77_5, rg_gR_77_6, rg_gR_77_7, rg_gR_77_12, rg_gR_77_16, rg_gR_77_17, rg_gR_77_18, rg_gR_77_19, rg_aI_78, rg_aI_79, rg_aI_80, rg_aI_81, rg_aI_82, rg_aI_83, rg_aI_85, rg_aI_86, rg_aI_87, rg_aI_88, rg_aI_89, rg_aI_90, rg_sI_78, rg_sI_79, rg_sI_80, rg_sI_81, rg_sI_82, rg_sI_83, rg_sI_85, rg_sI_86, rg_sI_87, rg_sI_88, rg_sI_89, rg_sI_90, rg_aZ_84, rg_sZ_84, Int.reduceToNat, rg_kIs, rg_kLs, rg_kRs, rg_kVs, rg_nns, rg_bs, cond_true, cond_false]
    rw [show ((i : Int) + 1) = ((i + 1 : Nat) : Int) by omega, rg_M_acts_16 d t n hn k (i + 1) _ (by omega)]
    rw [rg_up_u, rg_up_s]
    congr 3
    funext j
    unfold rg_ui
    rw [show (38 + 10 * (n : Int) + (i : Int)).toNat = 38 + 10 * n + i by omega, show (27 + (i : Int)).toNat = 27 + i by omega]
    by_cases h1 : 38 + 10 * n + (i + 1) ≤ j ∧ j < 38 + 10 * n + 10
    · rw [if_pos h1, if_neg (by omega), if_pos (by omega)]
    · rw [if_neg h1]
      by_cases h2 : j = 38 + 10 * n + i
      · rw [if_pos h2, if_pos (by omega), h2, show 38 + 10 * n + i - (38 + 10 * n) = i by omega]
      · rw [if_neg h2, if_neg (by omega)]
theorem rg_M_acts_62 (d : Nat) (r : Int) : ∀ (k i : Nat) (D : rf_D), i + k = 10 → rf_j_M_acts_62 d 77 r (i : Int) (hp X D) = rf_j_M_acts_62 d 77 r 10 (hp X (rg_up D 82 (fun j => if 27 + i ≤ j ∧ j < 37 then D 88 j else D 82 j)))
  | 0, i, D, hk => by
    have e : (fun j => if 27 + i ≤ j ∧ j < 37 then D 88 j else D 82 j) = D 82 := by
      funext j
      rw [if_neg (by omega)]
    rw [e, rg_up_i, show i = 10 by omega]
    try rfl
  | k + 1, i, D, hk => by
    rw [rf_e_M_acts_62, if_pos (by omega), rg_w (show -2147483648 ≤ 27 + (i : Int) by omega) (by omega), rg_w (show -2147483648 ≤ (i : Int) + 1 by omega) (by omega)]
    simp (disch := omega) only [rg_hp1, rg_o_77, rg_gI_77, rg_pI_77, rg_gR_77_0, rg_gR_77_1, rg_gR_77_2, rg_gR_77_3, rg_gR_77_4, rg_gR_77_5, rg_gR_77_6, rg_gR_77_7, rg_gR_77_12, rg_gR_77_16, rg_gR_77_17, rg_gR_77_18, rg_gR_77_19, rg_aI_78, rg_aI_79, rg_aI_80, rg_aI_81, rg_aI_82, rg_aI_83, rg_aI_85, rg_aI_86, rg_aI_87, rg_aI_88, rg_aI_89, rg_aI_90, rg_sI_78, rg_sI_79, rg_sI_80, rg_sI_81, rg_sI_82, rg_sI_83, rg_sI_85, rg_sI_86, rg_sI_87, rg_sI_88, rg_sI_89, rg_sI_90, rg_aZ_84, rg_sZ_84, Int.reduceToNat, rg_kIs, rg_kLs, rg_kRs, rg_kVs, rg_nns, rg_bs, cond_true, cond_false]
    rw [show ((i : Int) + 1) = ((i + 1 : Nat) : Int) by omega, rg_M_acts_62 d r k (i + 1) _ (by omega)]
    rw [rg_up_u, rg_up_s, rg_up_n (by decide)]
    congr 3
    funext j
    unfold rg_ui
    rw [show (27 + (i : Int)).toNat = 27 + i by omega]
    by_cases h1 : 27 + (i + 1) ≤ j ∧ j < 37
    · rw [if_pos h1, if_pos (by omega)]
    · rw [if_neg h1]
      by_cases h2 : j = 27 + i
      · rw [if_pos h2, if_pos (by omega), h2]
      · rw [if_neg h2, if_neg (by omega)]
/-- the row now behind a deed: the log has one more, the ten numbers are the new ones -/
def sp_log (A s' : Nat → Int) (n : Nat) : Nat → Int := fun j => if j = 37 then (n : Int) + 1 else if 27 ≤ j ∧ j < 37 then s' j else if 38 + 10 * n ≤ j ∧ j < 38 + 10 * n + 10 then A (27 + (j - (38 + 10 * n))) else A j
theorem rg_M_acts (d : Nat) (t : Int) (n : Nat) (hn : n ≤ 59) (hN : D 82 37 = (n : Int)) (h1 : 0 ≤ D 82 33) (h2 : D 82 33 ≤ D 82 36) (h3 : D 82 36 ≤ 6) (h4 : 0 ≤ D 82 34) (h5 : 1 ≤ D 82 2) (h6 : D 82 2 ≤ 6) {s : Nat → Int} (hs : s = sp_first (D 88) (D 82) 37) : rf_call (d + 6) 153 [.inr (.inr (some 77)), .inl t] (hp X D) = some (some (.inl (sp_does s t (sp_rail s)).1), hp X (rg_up (rg_up D 82 (sp_log (D 82) (sp_does s t (sp_rail s)).2 n)) 88 (sp_does s t (sp_rail s)).2)) := by
  rw [rf_e_M_acts]
  simp (disch := omega) only [rg_hp1, rg_o_77, rg_gI_77, rg_pI_77, rg_gR_77_0, rg_gR_77_1, rg_gR_77_2, rg_gR_77_3, rg_gR_77_4, rg_gR_77_5, rg_gR_77_6, rg_gR_77_7, rg_gR_77_12, rg_gR_77_16, rg_gR_77_17, rg_gR_77_18, rg_gR_77_19, rg_aI_78, rg_aI_79, rg_aI_80, rg_aI_81, rg_aI_82, rg_aI_83, rg_aI_85, rg_aI_86, rg_aI_87, rg_aI_88, rg_aI_89, rg_aI_90, rg_sI_78, rg_sI_79, rg_sI_80, rg_sI_81, rg_sI_82, rg_sI_83, rg_sI_85, rg_sI_86, rg_sI_87, rg_sI_88, rg_sI_89, rg_sI_90, rg_aZ_84, rg_sZ_84, Int.reduceToNat, rg_kIs, rg_kLs, rg_kRs, rg_kVs, rg_nns, rg_bs, cond_true, cond_false]
  rw [show D 82 37 = (n : Int) from hN, rg_w (show -2147483648 ≤ 10 * (n : Int) by omega) (by omega), rg_w (show -2147483648 ≤ 38 + 10 * (n : Int) by omega) (by omega)]
  have k := rg_M_acts_16 (X := X) (d + 5) t n hn 10 0 D (by omega)
  rw [show ((0 : Nat) : Int) = 0 from rfl] at k
  rw [k, rf_e_M_acts_16, if_neg (by decide)]
  simp only [rg_hp1, rg_o_77, Int.reduceToNat, rg_kIs, rg_kLs, rg_kRs, rg_kVs, rg_nns, rg_bs, cond_true, cond_false, rg_M_take]
  rw [rg_up_s, rg_up_n (show (88 : Nat) ≠ 82 by decide)]
  have e88 : ∀ A : Nat → Int, (∀ j, j < 37 → A j = D 82 j) → sp_first (D 88) A 37 = s := by
    intro A hA
    rw [hs]
    funext j
    unfold sp_first
    by_cases q : j < 37
    · rw [if_pos q, if_pos q, hA j q]
    · rw [if_neg q, if_neg q]
  rw [e88 _ (fun j hj => by rw [if_neg (by omega)])]
  have s33 : s 33 = D 82 33 := by rw [hs]; rfl
  have s36 : s 36 = D 82 36 := by rw [hs]; rfl
  have s34 : s 34 = D 82 34 := by rw [hs]; rfl
  have s2 : s 2 = D 82 2 := by rw [hs]; rfl
  rw [rg_M_railNow (X := X) (D := rg_up (rg_up D 82 _) 88 s) (d + 4) (by rw [rg_up_s, s34]; exact h4) (by rw [rg_up_s, s2]; exact h5) (by rw [rg_up_s, s2]; exact h6)]
  simp only [Int.reduceToNat, rg_kIs, rg_kLs, rg_kRs, rg_kVs, rg_nns, rg_bs, cond_true, cond_false, rg_hp1, rg_o_77]
  rw [rg_M_does (X := X) (D := rg_up (rg_up D 82 _) 88 s) d t _ (by rw [rg_up_s, s33]; exact h1) (by rw [rg_up_s, s33, s36]; exact h2) (by rw [rg_up_s, s36]; exact h3)]
  simp only [Int.reduceToNat, rg_kIs, rg_kLs, rg_kRs, rg_kVs, rg_nns, rg_bs, cond_true, cond_false, rg_up_s, rg_up_u]
  have k2 := rg_M_acts_62 (X := X) (d + 5) (sp_does s t (sp_rail s)).1 10 0 (rg_up (rg_up D 82 (fun j => if 38 + 10 * n + 0 ≤ j ∧ j < 38 + 10 * n + 10 then D 82 (27 + (j - (38 + 10 * n))) else D 82 j)) 88 (sp_does s t (sp_rail s)).2) (by omega)
  rw [show ((0 : Nat) : Int) = 0 from rfl] at k2
  rw [k2, rf_e_M_acts_62, if_neg (by decide)]
  simp (disch := omega) only [rg_hp1, rg_o_77, rg_gI_77, rg_pI_77, rg_gR_77_0, rg_gR_77_1, rg_gR_77_2, rg_gR_77_3, rg_gR_77_4, rg_gR_77_5, rg_gR_77_6, rg_gR_77_7, rg_gR_77_12, rg_gR_77_16, rg_gR_77_17, rg_gR_77_18, rg_gR_77_19, rg_aI_78, rg_aI_79, rg_aI_80, rg_aI_81, rg_aI_82, rg_aI_83, rg_aI_85, rg_aI_86, rg_aI_87, rg_aI_88, rg_aI_89, rg_aI_90, rg_sI_78, rg_sI_79, rg_sI_80, rg_sI_81, rg_sI_82, rg_sI_83, rg_sI_85, rg_sI_86, rg_sI_87, rg_sI_88, rg_sI_89, rg_sI_90, rg_aZ_84, rg_sZ_84, Int.reduceToNat, rg_kIs, rg_kLs, rg_kRs, rg_kVs, rg_nns, rg_bs, cond_true, cond_false, rg_up_s, rg_up_n, rg_up_u, rg_ui_s, rg_ui_n, rg_ui_u]
  rw [rg_up_c (show (82 : Nat) ≠ 88 by decide), rg_up_u, rg_up_c (show (88 : Nat) ≠ 82 by decide)]
  congr 5
  funext j
  unfold rg_ui sp_log
  dsimp only
  try simp only [Nat.add_zero]
  by_cases q1 : j = 37
  · subst q1
    rw [if_pos rfl, if_pos rfl, if_neg (by omega), if_neg (by omega), hN, rg_w (by omega) (by omega)]
  · rw [if_neg q1, if_neg q1]
end RGMG
