/-! grip -/
theorem E37.grip {u s : Nat → Int} (h : E37 u s) (r : Int) : sp_grip u r = sp_grip s r := by
  have e := pt_grip (s := s) (w := u) (r := r)
  rw [← pt_E h] at e
  exact e
theorem sp_grip_1 {u : Nat → Int} {r : Int} : sp_grip (rg_ui u 30 1) r = rf_w (sp_bare u r + 3) := by
  unfold sp_grip
  rw [rg_ui_s, if_pos rfl]
  try rfl
theorem sp_bare_of {u s : Nat → Int} (h : E37 u s) (r : Int) : sp_bare u r = sp_bare s r := by
  unfold sp_bare
  rw [h 0 (by decide), h 29 (by decide)]
section RGS12
variable {X : rf_X} {D : rf_D}
theorem st_grip (hI : Inv D) (d : Nat) : Ag X D (d + 8) 82 163 [] := by
  unfold Ag
  rcases hI.2.2.2.2 with ⟨h12, hN⟩ | ⟨h12, hY⟩
  · refine ⟨-4, D, D, ?_, ?_, hI⟩
    · rw [rf_e_W_grip]
      try simp only [rg_gI_0, Int.reduceToNat, rg_kIs, rg_kLs, rg_kRs, rg_kVs, rg_nns, rg_bs, cond_true, cond_false]
      rw [if_pos h12]
    · rw [rf_e_M_grip]
      try simp only [rg_hp1, rg_o_77, Int.reduceToNat, rg_kIs, rg_kLs, rg_kRs, rg_kVs, rg_nns, rg_bs, cond_true, cond_false]
      rw [rg_M_isTrain, hN.1 0 (by decide)]
      try simp only [Int.reduceToNat, rg_kIs, rg_kLs, rg_kRs, rg_kVs, rg_nns, rg_bs, cond_true, cond_false]
      rw [if_pos (by decide)]
  · obtain ⟨hd, hC, ha, hb, hT, ⟨n, h4, hDE, hL⟩, -⟩ := hY
    have st := hL.st hDE.1 ha hb hC.2.2.2.1
    have n60 := hDE.1
    have z1 : 1 ≤ D 82 2 ∧ D 82 2 ≤ 6 := hd.2.2.1
    have rl := sp_rail_02 hd st.1
    have h0 : 0 < D 82 0 := by
      have := hd.1.1
      omega
    have E1 := sp_first_E (D 88) (D 82)
    have rE := E1.rail (by rw [st.2.2]; omega) z1.1 z1.2
    have bb := sp_bb hd st.1 rl.1 rl.2
    have w1 := rg_T_rail (X := X) (D := D) rg_tr_43 hC hd st.1 (by omega) (d + 4) hT.2.2.2.1
    have w2 := rg_T_gripOn (X := X) (D := D) rg_tr_43 hC hd st.1 (d + 5) (b := 1) rl.1 rl.2 hT.1.2.2
    have w3 := rg_T_gripOn (X := X) (D := D) rg_tr_43 hC hd st.1 (d + 5) (b := D 43 9) rl.1 rl.2 hT.1.2.2
    rw [if_neg (by decide)] at w2
    rw [hT.2.1.1, sp_gripb hd st.1 rl.1 rl.2] at w3
    have s2 : ∀ f : Nat → Int, E37 f (D 82) → sp_rail (rg_ui f 30 1) = sp_rail (D 82) := fun f hf => by
      rw [← hf.rail (by rw [st.2.2]; omega) z1.1 z1.2]
      have a : 0 ≤ Int.tmod (f 34) (f 2) := Int.tmod_nonneg _ (by rw [hf 34 (by decide), st.2.2]; omega)
      have b : Int.tmod (f 34) (f 2) < f 2 := Int.tmod_lt_of_pos _ (by rw [hf 2 (by decide)]; omega)
      have c := hf 2 (by decide)
      unfold sp_rail
      rw [rg_ui_n (show 34 ≠ 30 by decide), rg_ui_n (show 2 ≠ 30 by decide), rg_ui_n (by omega)]
    have hI2 := (hI.s88 (rg_ui (sp_first (D 88) (D 82) 37) 30 1)).tl (sp_bare (D 82) (sp_rail (D 82)) + 3)
    generalize hv : sp_bare (D 82) (sp_rail (D 82)) + 3 = v at w2 hI2
    refine ⟨sp_grip (D 82) (sp_rail (D 82)), wtl v D, _, ?_, ?_, hI2⟩
    · rw [rf_e_W_grip]
      try simp only [rg_gI_0, Int.reduceToNat, rg_kIs, rg_kLs, rg_kRs, rg_kVs, rg_nns, rg_bs, cond_true, cond_false]
      rw [if_neg (by omega)]
      try simp only [rg_gR_0_10, rg_hp1, rg_tr_43.1, Int.reduceToNat, rg_kIs, rg_kLs, rg_kRs, rg_kVs, rg_nns, rg_bs, cond_true, cond_false]
      rw [w1]
      try simp only [rg_gR_0_10, rg_hp1, rg_tr_43.1, Int.reduceToNat, rg_kIs, rg_kLs, rg_kRs, rg_kVs, rg_nns, rg_bs, cond_true, cond_false]
      rw [w2]
      try simp only [rg_gR_0_10, rg_T_gI rg_tr_43, rg_hp1, rg_tr_43.1, Int.reduceToNat, rg_kIs, rg_kLs, rg_kRs, rg_kVs, rg_nns, rg_bs, cond_true, cond_false]
      rw [hT.2.1.1, w3]
      try simp only [rg_hp1, rg_o_0, Int.reduceToNat, rg_kIs, rg_kLs, rg_kRs, rg_kVs, rg_nns, rg_bs, cond_true, cond_false]
      rw [rg_W_tell]
      try simp only [Int.reduceToNat, rg_kIs, rg_kLs, rg_kRs, rg_kVs, rg_nns, rg_bs, cond_true, cond_false]
    · have e82 : wtl v D 82 = D 82 := wtl_n (by decide)
      have e88 : wtl v D 88 = D 88 := wtl_n (by decide)
      rw [rf_e_M_grip]
      try simp only [rg_hp1, rg_o_77, Int.reduceToNat, rg_kIs, rg_kLs, rg_kRs, rg_kVs, rg_nns, rg_bs, cond_true, cond_false]
      rw [rg_M_isTrain, e82, if_pos h0]
      try simp only [Int.reduceToNat, rg_kIs, rg_kLs, rg_kRs, rg_kVs, rg_nns, rg_bs, cond_true, cond_false]
      rw [if_neg (by decide)]
      try simp only [rg_hp1, rg_o_77, Int.reduceToNat, rg_kIs, rg_kLs, rg_kRs, rg_kVs, rg_nns, rg_bs, cond_true, cond_false]
      rw [rg_M_take, e82, e88]
      try simp only [rg_hp1, rg_o_77, Int.reduceToNat, rg_kIs, rg_kLs, rg_kRs, rg_kVs, rg_nns, rg_bs, cond_true, cond_false]
      rw [rg_M_railNow (d + 6) (by rw [rg_up_s, E1 34 (by decide), st.2.2]; omega) (by rw [rg_up_s, E1 2 (by decide)]; exact z1.1) (by rw [rg_up_s, E1 2 (by decide)]; exact z1.2), rg_up_s, rE]
      try simp only [rg_hp1, rg_o_77, Int.reduceToNat, rg_kIs, rg_kLs, rg_kRs, rg_kVs, rg_nns, rg_bs, cond_true, cond_false]
      rw [rg_M_gripOn (d + 5), rg_up_s, E1.grip]
      try simp only [rg_gR_77_17, Int.reduceToNat, rg_kIs, rg_kLs, rg_kRs, rg_kVs, rg_nns, rg_bs, cond_true, cond_false]
      rw [rg_sI_88 (by decide) (by decide), rg_up_s, rg_up_u]
      try simp only [rg_hp1, rg_o_77, Int.reduceToNat, rg_kIs, rg_kLs, rg_kRs, rg_kVs, rg_nns, rg_bs, cond_true, cond_false]
      rw [rg_M_railNow (d + 6) (by rw [rg_up_s, rg_ui_n (by decide), E1 34 (by decide), st.2.2]; omega) (by rw [rg_up_s, rg_ui_n (by decide), E1 2 (by decide)]; exact z1.1) (by rw [rg_up_s, rg_ui_n (by decide), E1 2 (by decide)]; exact z1.2), rg_up_s, s2 _ E1]
      try simp only [rg_hp1, rg_o_77, Int.reduceToNat, rg_kIs, rg_kLs, rg_kRs, rg_kVs, rg_nns, rg_bs, cond_true, cond_false]
      rw [rg_M_gripOn (d + 5), rg_up_s, sp_grip_1, sp_bare_of E1, rg_w (by omega) (by omega), hv]
      try simp only [rg_hp1, rg_o_77, Int.reduceToNat, rg_kIs, rg_kLs, rg_kRs, rg_kVs, rg_nns, rg_bs, cond_true, cond_false]
      rw [rf_e_M_answers, rg_pI_77]
      try simp only [Int.reduceToNat, rg_kIs, rg_kLs, rg_kRs, rg_kVs, rg_nns, rg_bs, cond_true, cond_false]
      rw [rg_tl0 (by decide)]
      try rfl
end RGS12
