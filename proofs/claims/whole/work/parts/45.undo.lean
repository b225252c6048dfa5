/-! undo -/
section RGS8
variable {X : rf_X} {D : rf_D}
theorem ITr.deeds (h : ITr D) : ∃ m : Nat, D 4 1 = (m : Int) ∧ D 82 37 = (m : Int) ∧ m ≤ 60 := by
  rcases h with ⟨-, hN⟩ | ⟨-, hY⟩
  · exact ⟨0, hN.2.1, hN.1 37 (by decide), by decide⟩
  · obtain ⟨-, -, -, -, -, ⟨n, h4, hDE, hL⟩, -⟩ := hY
    exact ⟨n, h4, hL.1, hDE.1⟩
theorem ud_W {m k : Nat} {f' : Nat → Int} (d : Nat) (h4 : D 4 1 = (m : Int)) (hk : k ≤ m) (hA : rf_call (d + 7) 69 [.inr (.inr (some 0))] (hp X (rg_up D 4 (rg_ui (D 4) 1 (k : Int)))) = some (none, hp X (rg_up (rg_up D 4 (rg_ui (D 4) 1 (k : Int))) 43 f'))) : rf_call (d + 8) 79 [.inr (.inr (some 0)), .inl (k : Int)] (hp X D) = some (some (.inl (rf_w ((m : Int) - (k : Int)))), hp X (rg_up (rg_up D 4 (rg_ui (D 4) 1 (k : Int))) 43 f')) := by
  rw [rf_e_W_undo, if_neg (by omega)]
  try simp only [rg_gR_0_3, rg_row_gI rg_row_4, Int.reduceToNat, rg_kIs, rg_kLs, rg_kRs, rg_kVs, rg_nns, rg_bs, cond_true, cond_false]
  rw [if_neg (by omega)]
  try simp only [rg_gR_0_3, rg_hp1, rg_row_gI rg_row_4, rg_row_o rg_row_4, Int.reduceToNat, rg_kIs, rg_kLs, rg_kRs, rg_kVs, rg_nns, rg_bs, cond_true, cond_false]
  rw [rg_R_shorten rg_row_4 (d + 5) (by omega)]
  try simp only [rg_hp1, rg_o_0, Int.reduceToNat, rg_kIs, rg_kLs, rg_kRs, rg_kVs, rg_nns, rg_bs, cond_true, cond_false]
  rw [hA]
  try simp only [Int.reduceToNat, rg_kIs, rg_kLs, rg_kRs, rg_kVs, rg_nns, rg_bs, cond_true, cond_false]
  rw [h4]
theorem ud_M {m k : Nat} (d : Nat) (h37 : D 82 37 = (m : Int)) (hm : m ≤ 60) (hk : k ≤ m) : ∃ B, rf_call (d + 8) 160 [.inr (.inr (some 77)), .inl (k : Int)] (hp X D) = some (some (.inl (rf_w ((m : Int) - (k : Int)))), hp X (rg_up D 82 B)) ∧ B = (if k < m then ud_B (D 82) k 0 else rg_ui (D 82) 37 (k : Int)) := by
  have xw : rf_w ((m : Int) - (k : Int)) = (m : Int) - (k : Int) := rg_w (by omega) (by omega)
  refine ⟨_, ?_, rfl⟩
  rw [rf_e_M_undo]
  try simp only [rg_gR_77_4, Int.reduceToNat, rg_kIs, rg_kLs, rg_kRs, rg_kVs, rg_nns, rg_bs, cond_true, cond_false]
  rw [rg_aI_82 (by decide) (by decide)]
  try simp only [Int.reduceToNat, rg_kIs, rg_kLs, rg_kRs, rg_kVs, rg_nns, rg_bs, cond_true, cond_false]
  rw [h37, rg_M_in]
  try simp only [Int.reduceToNat, rg_kIs, rg_kLs, rg_kRs, rg_kVs, rg_nns, rg_bs, cond_true, cond_false]
  rw [if_pos (show 0 ≤ (k : Int) ∧ (k : Int) ≤ (m : Int) by omega), if_neg (by decide)]
  try simp only [rg_gR_77_4, Int.reduceToNat, rg_kIs, rg_kLs, rg_kRs, rg_kVs, rg_nns, rg_bs, cond_true, cond_false]
  try rw [rg_aI_82 (by decide) (by decide)]
  try simp only [Int.reduceToNat, rg_kIs, rg_kLs, rg_kRs, rg_kVs, rg_nns, rg_bs, cond_true, cond_false]
  try rw [h37]
  by_cases a : k < m
  · rw [xw, if_pos (by omega), if_pos a]
    have l := rg_M_undo_35 (X := X) (d + 7) (n := k) (by omega) ((m : Int) - (k : Int)) 10 0 D (by omega)
    rw [show ((0 : Nat) : Int) = 0 from rfl] at l
    exact l
  · rw [xw, if_neg (by omega), if_neg a]
    try simp only [rg_gR_77_4, Int.reduceToNat, rg_kIs, rg_kLs, rg_kRs, rg_kVs, rg_nns, rg_bs, cond_true, cond_false]
    rw [rg_sI_82 (by decide) (by decide)]
    try simp only [Int.reduceToNat, rg_kIs, rg_kLs, rg_kRs, rg_kVs, rg_nns, rg_bs, cond_true, cond_false]
theorem st_undo (hI : Inv D) (d : Nat) (n : Int) : Ag X D (d + 8) 79 160 [.inl n] := by
  unfold Ag
  obtain ⟨m, h4, h37, m60⟩ := hI.2.2.2.2.deeds
  by_cases hn : 0 ≤ n ∧ n ≤ (m : Int)
  · obtain ⟨k, rfl⟩ := Int.eq_ofNat_of_zero_le hn.1
    have hk : k ≤ m := by omega
    obtain ⟨D1, hD1⟩ : ∃ D1, D1 = rg_up D 4 (rg_ui (D 4) 1 (k : Int)) := ⟨_, rfl⟩
    have D1n : ∀ a, a ≠ 4 → D1 a = D a := fun a y => by rw [hD1, rg_up_n y]
    have D14 : D1 4 1 = (k : Int) := by rw [hD1, rg_up_s, rg_ui_s]
    have fin : ∀ f' : Nat → Int, ∀ B : Nat → Int, ITr (rg_up (rg_up D1 43 f') 82 B) → Inv (rg_up (rg_up D1 43 f') 82 B) := fun f' B h => by
      refine hI.tr (fun a y => ?_) (fun j _ _ => ?_) (fun j _ _ => ?_) h
      · rw [rg_up_n (by omega), rg_up_n (by omega), D1n a (by omega)]
      · rw [rg_up_n (by decide), rg_up_n (by decide), D1n 0 (by decide)]
      · rw [rg_up_n (by decide), rg_up_n (by decide), D1n 77 (by decide)]
    rcases hI.2.2.2.2 with ⟨h12, hN⟩ | ⟨h12, hY⟩
    · have m0 : m = 0 := by
        have := hN.2.1
        omega
      have k0 : k = 0 := by omega
      obtain ⟨f', a1, a2, a3⟩ := rg_W_anew0 (X := X) (D := D1) d (by rw [D14, k0]; rfl)
      have w := ud_W (X := X) (D := D) (f' := f') d h4 hk (by rw [← hD1]; exact a1)
      rw [← hD1] at w
      obtain ⟨B, b1, b2⟩ := ud_M (X := X) (D := rg_up D1 43 f') d (m := m) (k := k) (by rw [rg_up_n (by decide), D1n 82 (by decide)]; exact h37) m60 hk
      rw [if_neg (by omega), rg_up_n (by decide), D1n 82 (by decide)] at b2
      refine ⟨_, _, _, w, b1, fin f' B (Or.inl ⟨?_, ?_⟩)⟩
      · rw [rg_up_n (by decide), rg_up_n (by decide), D1n 0 (by decide)]
        exact h12
      · have F : ∀ a, a ≠ 82 → a ≠ 43 → a ≠ 4 → rg_up (rg_up D1 43 f') 82 B a = D a := fun a y1 y2 y3 => by rw [rg_up_n y1, rg_up_n y2, D1n a y3]
        obtain ⟨n1, n2, n3, n4, n5, n6, n7⟩ := hN
        unfold INo
        rw [F 29 (by decide) (by decide) (by decide), F 31 (by decide) (by decide) (by decide), F 33 (by decide) (by decide) (by decide), F 35 (by decide) (by decide) (by decide), F 37 (by decide) (by decide) (by decide), F 39 (by decide) (by decide) (by decide), F 41 (by decide) (by decide) (by decide), F 40 (by decide) (by decide) (by decide), F 42 (by decide) (by decide) (by decide), F 84 (by decide) (by decide) (by decide), rg_up_s, rg_up_n (show (4 : Nat) ≠ 82 by decide), rg_up_n (show (4 : Nat) ≠ 43 by decide), D14, rg_up_n (show (43 : Nat) ≠ 82 by decide), rg_up_s, a2, a3, D1n 31 (by decide)]
        refine ⟨fun j hj => ?_, by omega, n5.2.1, Or.inr rfl, n5, n6, fun q hq => ?_⟩
        · rw [b2]
          by_cases z : j = 37
          · rw [z, rg_ui_s]
            omega
          · rw [rg_ui_n z]
            exact n1 j hj
        · rw [F (64 + 2 * q) (by omega) (by omega) (by omega)]
          exact n7 q hq
    · have hY2 := hY
      obtain ⟨hd, hC, ha, hb, hT, ⟨p, p4, hDE, hL⟩, hkp⟩ := hY2
      have pm : p = m := by omega
      subst pm
      have hC1 : CR D1 28 (D 82) (D 31 1) := hC.of fun a y1 y2 => D1n a (by omega)
      have DEk : DE (D 5) k := ⟨by omega, fun i hi => hDE.2 i (by omega)⟩
      obtain ⟨f', a1, a2⟩ := rg_W_anew (X := X) (D := D1) d (A := D 82) (m := k) hd (by rw [D1n 28 (by decide)]; exact ha) (by rw [D1n 28 (by decide)]; exact hb) (by rw [D1n 31 (by decide)]; exact hC1) D14 (by rw [D1n 5 (by decide)]; exact DEk)
      rw [D1n 5 (by decide), D1n 28 (by decide), D1n 31 (by decide)] at a2
      have w := ud_W (X := X) (D := D) (f' := f') d h4 hk (by rw [← hD1]; exact a1)
      rw [← hD1] at w
      obtain ⟨B, b1, b2⟩ := ud_M (X := X) (D := rg_up D1 43 f') d (m := p) (k := k) (by rw [rg_up_n (by decide), D1n 82 (by decide)]; exact h37) m60 hk
      rw [rg_up_n (by decide), D1n 82 (by decide)] at b2
      have F : ∀ a, a ≠ 82 → a ≠ 43 → a ≠ 4 → rg_up (rg_up D1 43 f') 82 B a = D a := fun a y1 y2 y3 => by rw [rg_up_n y1, rg_up_n y2, D1n a y3]
      have Bh : ∀ j, j < 27 → B j = D 82 j := fun j hj => by
        rw [b2]
        by_cases z : k < p
        · rw [if_pos z]
          unfold ud_B
          rw [if_neg (by omega), if_neg (by omega)]
        · rw [if_neg z, rg_ui_n (by omega)]
      have BL : LG B (D 5) (D 28 8) (D 28 9) (D 31 1) k := by
        rw [b2]
        by_cases z : k < p
        · rw [if_pos z]
          exact hL.ud z
        · rw [if_neg z]
          have kp : k = p := by omega
          rw [kp, ← h37, rg_ui_i]
          exact hL
      refine ⟨_, _, _, w, b1, fin f' B (Or.inr ⟨?_, hY.re (n := k) ?_ (fun a y => F a (by omega) (by omega) (by omega)) ?_ ?_ ?_ ?_ (fun q hq => (hkp q hq).hd hq (fun a y => F a (by omega) (by omega) (by omega)) ?_)⟩)⟩
      · rw [F 0 (by decide) (by decide) (by decide)]
        exact h12
      · rw [F 5 (by decide) (by decide) (by decide)]
        exact DEk
      · rw [rg_up_n (by decide), rg_up_n (by decide)]
        exact D14
      · intro j hj
        rw [rg_up_s]
        exact Bh j hj
      · rw [rg_up_s, F 5 (by decide) (by decide) (by decide)]
        exact BL
      · rw [rg_up_s, F 5 (by decide) (by decide) (by decide), rg_up_n (show (43 : Nat) ≠ 82 by decide), rg_up_s, sp_ch_of (e := D 5) Bh _ _ _ (fun _ _ => rfl)]
        exact a2
      · intro j hj
        rw [rg_up_s]
        exact Bh j hj
  · refine ⟨-1, D, D, ?_, ?_, hI⟩
    · rw [rf_e_W_undo]
      by_cases b : n < 0
      · rw [if_pos b]
      · rw [if_neg b]
        try simp only [rg_gR_0_3, rg_row_gI rg_row_4, Int.reduceToNat, rg_kIs, rg_kLs, rg_kRs, rg_kVs, rg_nns, rg_bs, cond_true, cond_false]
        rw [if_pos (by omega)]
    · rw [rf_e_M_undo]
      try simp only [rg_gR_77_4, Int.reduceToNat, rg_kIs, rg_kLs, rg_kRs, rg_kVs, rg_nns, rg_bs, cond_true, cond_false]
      rw [rg_aI_82 (by decide) (by decide)]
      try simp only [Int.reduceToNat, rg_kIs, rg_kLs, rg_kRs, rg_kVs, rg_nns, rg_bs, cond_true, cond_false]
      rw [h37, rg_M_in]
      try simp only [Int.reduceToNat, rg_kIs, rg_kLs, rg_kRs, rg_kVs, rg_nns, rg_bs, cond_true, cond_false]
      rw [if_neg hn, if_pos (by decide)]
end RGS8
